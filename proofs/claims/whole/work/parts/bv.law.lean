/-! The law. Written by wip/whole/gen_bv.py. -/
theorem lg_self (a : Int64) : (lg_cmp a a).toInt = 0 := by
  unfold lg_cmp
  rw [if_neg (fun h => Int64.lt_irrefl h), if_pos rfl]
  rfl
set_option maxRecDepth 10000 in
theorem l_sets {L k : Nat} {xs : Nat → Int} (hL : L ≤ 3072) (hx : ∀ j, inR (xs j)) (hk : 6 * k + 6 ≤ L) {I : Nat → Nat → Int} {R : Nat → Nat → Option Nat} {u : Int64} {σ : Sg} (hs : Sok k σ) (hC : CI σ I R) (hR : RI σ I) (h0 : I 0 = xs) (hc : xs (6 * k) % 32 = 0) : ∃ I2 R2 u2 σ', am_ev (am_run am_tb 60) wL_law_18 ([vR 0, vR 3, vR 301, vI (6 * k : Nat)], [], LH L I R u) = some (18 + 2, [vR 0, vR 3, vR 301, vI (6 * (k + 1) : Nat)], [], LH L I2 R2 u2) ∧ Sok (k + 1) σ' ∧ CI σ' I2 R2 ∧ RI σ' I2 ∧ I2 0 = xs := by
  obtain ⟨v, σ', I1, R1, I2, u2, r1, r2, hv, s1, s2, s3', e1, e2⟩ := z_sets (L := L) (v0 := u) hs (by omega) hC hR (hx (6 * k + 1)) (hx (6 * k + 2)) (hx (6 * k + 3)) (hx (6 * k + 4))
  rw [h0] at e1
  refine ⟨I2, R1, u2, σ', ?_, s1, s2, s3', e2.trans h0⟩
  unfold wL_law_18
  apply t_Q
  · unfold pL_law_18
    apply t_B
    · refine x_iload_n rfl ?_
      refine x_aload_n rfl ?_
      refine x_alen (Or.inr tg_0) ?_
      rw [show ln L 0 = L from if_pos rfl]
      refine x_bipush ?_
      refine x_isub ?_
      exact rfl
    exact t_ic_gt_f (by omega)
  apply t_Q
  · unfold pL_law_27
    apply t_S
    refine x_aload_n rfl ?_
    refine x_iload_n rfl ?_
    refine x_ialdv (Or.inr tg_0) (if_pos rfl) (by omega) (show _ = xs (6 * k) by rw [h0, Int.toNat_natCast]) ?_
    refine x_bipush ?_
    refine x_iand (by have := hx (6 * k); omega) ?_
    rw [show xs (6 * k) % (31 + 1) = xs (6 * k) % 32 from rfl, hc]
    exact rfl
  apply t_Q
  · apply t_K
    apply t_Qs
    apply t_Ks
    · apply t_Qs
      apply t_Ks
      · apply t_Qs
        apply t_Ks
        · apply t_Qs
          apply t_Ks
          · apply t_Qs
            apply t_Ks
            · apply t_Qs
              apply t_Ks
              · apply t_Qs
                apply t_Ks
                · apply t_Qs
                  apply t_Ks
                  · apply t_Qs
                    apply t_Ks
                    · apply t_Qs
                      apply t_Ks
                      · apply t_Qs
                        apply t_Ks
                        · apply t_Qs
                          apply t_Ks
                          · apply t_Qs
                            apply t_Ks
                            · apply t_Qs
                              apply t_Ks
                              · apply t_Qs
                                apply t_Ks
                                · apply t_Qs
                                  apply t_Ks
                                  · apply t_Qs
                                    apply t_Ks
                                    · apply t_Qs
                                      apply t_Ks
                                      · apply t_Qs
                                        apply t_Ks
                                        · apply t_Qs
                                          apply t_Ks
                                          · apply t_Qs
                                            apply t_Ks
                                            · apply t_Qs
                                              apply t_Ks
                                              · apply t_Qs
                                                apply t_Ks
                                                · apply t_Qs
                                                  apply t_Ks
                                                  · apply t_Qs
                                                    apply t_Ks
                                                    · apply t_Q
                                                      · apply t_K
                                                        unfold pL_law_33
                                                        apply t_B
                                                        · exact rfl
                                                        exact t_swi (by omega) rfl
                                                      apply t_Qs
                                                      unfold pL_law_152
                                                      apply t_B
                                                      · refine x_aload_n rfl ?_
                                                        refine x_aload_n rfl ?_
                                                        refine x_iload_n rfl ?_
                                                        refine x_iconst ?_
                                                        refine x_iadd ?_
                                                        refine x_ialdv (Or.inr tg_0) (if_pos rfl) (by omega) (show _ = xs (6 * k + 1) by rw [h0, show (((6 * k : Nat) : Int) + 1).toNat = 6 * k + 1 by omega]) ?_
                                                        refine x_aload_n rfl ?_
                                                        refine x_iload_n rfl ?_
                                                        refine x_iconst ?_
                                                        refine x_iadd ?_
                                                        refine x_ialdv (Or.inr tg_0) (if_pos rfl) (by omega) (show _ = xs (6 * k + 2) by rw [h0, show (((6 * k : Nat) : Int) + 2).toNat = 6 * k + 2 by omega]) ?_
                                                        refine x_aload_n rfl ?_
                                                        refine x_iload_n rfl ?_
                                                        refine x_iconst ?_
                                                        refine x_iadd ?_
                                                        refine x_ialdv (Or.inr tg_0) (if_pos rfl) (by omega) (show _ = xs (6 * k + 3) by rw [h0, show (((6 * k : Nat) : Int) + 3).toNat = 6 * k + 3 by omega]) ?_
                                                        refine x_aload_n rfl ?_
                                                        refine x_iload_n rfl ?_
                                                        refine x_iconst ?_
                                                        refine x_iadd ?_
                                                        refine x_ialdv (Or.inr tg_0) (if_pos rfl) (by omega) (show _ = xs (6 * k + 4) by rw [h0, show (((6 * k : Nat) : Int) + 4).toNat = 6 * k + 4 by omega]) ?_
                                                        refine x_V5i tg_3 (Nat.le_of_ble_eq_true rfl) r1 ?_
                                                        refine x_aload_n rfl ?_
                                                        refine x_aload_n rfl ?_
                                                        refine x_iload_n rfl ?_
                                                        refine x_iconst ?_
                                                        refine x_iadd ?_
                                                        refine x_ialdv (Or.inr tg_0) (if_pos rfl) (by omega) (show _ = xs (6 * k + 1) by rw [e1, show (((6 * k : Nat) : Int) + 1).toNat = 6 * k + 1 by omega]) ?_
                                                        refine x_aload_n rfl ?_
                                                        refine x_iload_n rfl ?_
                                                        refine x_iconst ?_
                                                        refine x_iadd ?_
                                                        refine x_ialdv (Or.inr tg_0) (if_pos rfl) (by omega) (show _ = xs (6 * k + 2) by rw [e1, show (((6 * k : Nat) : Int) + 2).toNat = 6 * k + 2 by omega]) ?_
                                                        refine x_aload_n rfl ?_
                                                        refine x_iload_n rfl ?_
                                                        refine x_iconst ?_
                                                        refine x_iadd ?_
                                                        refine x_ialdv (Or.inr tg_0) (if_pos rfl) (by omega) (show _ = xs (6 * k + 3) by rw [e1, show (((6 * k : Nat) : Int) + 3).toNat = 6 * k + 3 by omega]) ?_
                                                        refine x_aload_n rfl ?_
                                                        refine x_iload_n rfl ?_
                                                        refine x_iconst ?_
                                                        refine x_iadd ?_
                                                        refine x_ialdv (Or.inr tg_0) (if_pos rfl) (by omega) (show _ = xs (6 * k + 4) by rw [e1, show (((6 * k : Nat) : Int) + 4).toNat = 6 * k + 4 by omega]) ?_
                                                        refine x_V5i tg_301 (Nat.le_of_ble_eq_true rfl) r2 ?_
                                                        exact rfl
                                                      exact t_ic_eq_t ⟨hv, hv, rfl⟩
                                                    · decide
                                                  · decide
                                                · decide
                                              · decide
                                            · decide
                                          · decide
                                        · decide
                                      · decide
                                    · decide
                                  · decide
                                · decide
                              · decide
                            · decide
                          · decide
                        · decide
                      · decide
                    · decide
                  · decide
                · decide
              · decide
            · decide
          · decide
        · decide
      · decide
    · decide
  unfold pL_law_1041
  apply t_B
  · refine x_iinc rfl rfl ?_
    exact rfl
  exact t_goeq (s3 (by rw [show ((6 * k : Nat) : Int) + 6 = ((6 * (k + 1) : Nat) : Int) by omega]; rfl) rfl)
set_option maxRecDepth 10000 in
theorem l_at {L k : Nat} {xs : Nat → Int} (hL : L ≤ 3072) (hx : ∀ j, inR (xs j)) (hk : 6 * k + 6 ≤ L) {I : Nat → Nat → Int} {R : Nat → Nat → Option Nat} {u : Int64} {σ : Sg} (hs : Sok k σ) (hC : CI σ I R) (hR : RI σ I) (h0 : I 0 = xs) (hc : xs (6 * k) % 32 = 1) : ∃ I2 R2 u2 σ', am_ev (am_run am_tb 60) wL_law_18 ([vR 0, vR 3, vR 301, vI (6 * k : Nat)], [], LH L I R u) = some (18 + 2, [vR 0, vR 3, vR 301, vI (6 * (k + 1) : Nat)], [], LH L I2 R2 u2) ∧ Sok (k + 1) σ' ∧ CI σ' I2 R2 ∧ RI σ' I2 ∧ I2 0 = xs := by
  obtain ⟨v, σ', I1, R1, I2, u2, r1, r2, hv, s1, s2, s3', e1, e2⟩ := z_at (L := L) (v0 := u) hs (by omega) hC hR (hx (6 * k + 1)) (hx (6 * k + 2)) (hx (6 * k + 3))
  rw [h0] at e1
  refine ⟨I2, R1, u2, σ', ?_, s1, s2, s3', e2.trans h0⟩
  unfold wL_law_18
  apply t_Q
  · unfold pL_law_18
    apply t_B
    · refine x_iload_n rfl ?_
      refine x_aload_n rfl ?_
      refine x_alen (Or.inr tg_0) ?_
      rw [show ln L 0 = L from if_pos rfl]
      refine x_bipush ?_
      refine x_isub ?_
      exact rfl
    exact t_ic_gt_f (by omega)
  apply t_Q
  · unfold pL_law_27
    apply t_S
    refine x_aload_n rfl ?_
    refine x_iload_n rfl ?_
    refine x_ialdv (Or.inr tg_0) (if_pos rfl) (by omega) (show _ = xs (6 * k) by rw [h0, Int.toNat_natCast]) ?_
    refine x_bipush ?_
    refine x_iand (by have := hx (6 * k); omega) ?_
    rw [show xs (6 * k) % (31 + 1) = xs (6 * k) % 32 from rfl, hc]
    exact rfl
  apply t_Q
  · apply t_K
    apply t_Qs
    apply t_Ks
    · apply t_Qs
      apply t_Ks
      · apply t_Qs
        apply t_Ks
        · apply t_Qs
          apply t_Ks
          · apply t_Qs
            apply t_Ks
            · apply t_Qs
              apply t_Ks
              · apply t_Qs
                apply t_Ks
                · apply t_Qs
                  apply t_Ks
                  · apply t_Qs
                    apply t_Ks
                    · apply t_Qs
                      apply t_Ks
                      · apply t_Qs
                        apply t_Ks
                        · apply t_Qs
                          apply t_Ks
                          · apply t_Qs
                            apply t_Ks
                            · apply t_Qs
                              apply t_Ks
                              · apply t_Qs
                                apply t_Ks
                                · apply t_Qs
                                  apply t_Ks
                                  · apply t_Qs
                                    apply t_Ks
                                    · apply t_Qs
                                      apply t_Ks
                                      · apply t_Qs
                                        apply t_Ks
                                        · apply t_Qs
                                          apply t_Ks
                                          · apply t_Qs
                                            apply t_Ks
                                            · apply t_Qs
                                              apply t_Ks
                                              · apply t_Qs
                                                apply t_Ks
                                                · apply t_Qs
                                                  apply t_Ks
                                                  · apply t_Q
                                                    · apply t_K
                                                      apply t_Qs
                                                      apply t_Ks
                                                      · unfold pL_law_33
                                                        apply t_B
                                                        · exact rfl
                                                        exact t_swi (by omega) rfl
                                                      · decide
                                                    apply t_Qs
                                                    unfold pL_law_205
                                                    apply t_B
                                                    · refine x_aload_n rfl ?_
                                                      refine x_aload_n rfl ?_
                                                      refine x_iload_n rfl ?_
                                                      refine x_iconst ?_
                                                      refine x_iadd ?_
                                                      refine x_ialdv (Or.inr tg_0) (if_pos rfl) (by omega) (show _ = xs (6 * k + 1) by rw [h0, show (((6 * k : Nat) : Int) + 1).toNat = 6 * k + 1 by omega]) ?_
                                                      refine x_aload_n rfl ?_
                                                      refine x_iload_n rfl ?_
                                                      refine x_iconst ?_
                                                      refine x_iadd ?_
                                                      refine x_ialdv (Or.inr tg_0) (if_pos rfl) (by omega) (show _ = xs (6 * k + 2) by rw [h0, show (((6 * k : Nat) : Int) + 2).toNat = 6 * k + 2 by omega]) ?_
                                                      refine x_aload_n rfl ?_
                                                      refine x_iload_n rfl ?_
                                                      refine x_iconst ?_
                                                      refine x_iadd ?_
                                                      refine x_ialdv (Or.inr tg_0) (if_pos rfl) (by omega) (show _ = xs (6 * k + 3) by rw [h0, show (((6 * k : Nat) : Int) + 3).toNat = 6 * k + 3 by omega]) ?_
                                                      refine x_V4i tg_3 (Nat.le_of_ble_eq_true rfl) r1 ?_
                                                      refine x_aload_n rfl ?_
                                                      refine x_aload_n rfl ?_
                                                      refine x_iload_n rfl ?_
                                                      refine x_iconst ?_
                                                      refine x_iadd ?_
                                                      refine x_ialdv (Or.inr tg_0) (if_pos rfl) (by omega) (show _ = xs (6 * k + 1) by rw [e1, show (((6 * k : Nat) : Int) + 1).toNat = 6 * k + 1 by omega]) ?_
                                                      refine x_aload_n rfl ?_
                                                      refine x_iload_n rfl ?_
                                                      refine x_iconst ?_
                                                      refine x_iadd ?_
                                                      refine x_ialdv (Or.inr tg_0) (if_pos rfl) (by omega) (show _ = xs (6 * k + 2) by rw [e1, show (((6 * k : Nat) : Int) + 2).toNat = 6 * k + 2 by omega]) ?_
                                                      refine x_aload_n rfl ?_
                                                      refine x_iload_n rfl ?_
                                                      refine x_iconst ?_
                                                      refine x_iadd ?_
                                                      refine x_ialdv (Or.inr tg_0) (if_pos rfl) (by omega) (show _ = xs (6 * k + 3) by rw [e1, show (((6 * k : Nat) : Int) + 3).toNat = 6 * k + 3 by omega]) ?_
                                                      refine x_V4i tg_301 (Nat.le_of_ble_eq_true rfl) r2 ?_
                                                      exact rfl
                                                    exact t_ic_eq_t ⟨hv, hv, rfl⟩
                                                  · decide
                                                · decide
                                              · decide
                                            · decide
                                          · decide
                                        · decide
                                      · decide
                                    · decide
                                  · decide
                                · decide
                              · decide
                            · decide
                          · decide
                        · decide
                      · decide
                    · decide
                  · decide
                · decide
              · decide
            · decide
          · decide
        · decide
      · decide
    · decide
  unfold pL_law_1041
  apply t_B
  · refine x_iinc rfl rfl ?_
    exact rfl
  exact t_goeq (s3 (by rw [show ((6 * k : Nat) : Int) + 6 = ((6 * (k + 1) : Nat) : Int) by omega]; rfl) rfl)
set_option maxRecDepth 10000 in
theorem l_sums {L k : Nat} {xs : Nat → Int} (hL : L ≤ 3072) (hx : ∀ j, inR (xs j)) (hk : 6 * k + 6 ≤ L) {I : Nat → Nat → Int} {R : Nat → Nat → Option Nat} {u : Int64} {σ : Sg} (hs : Sok k σ) (hC : CI σ I R) (hR : RI σ I) (h0 : I 0 = xs) (hc : xs (6 * k) % 32 = 2) : ∃ I2 R2 u2 σ', am_ev (am_run am_tb 60) wL_law_18 ([vR 0, vR 3, vR 301, vI (6 * k : Nat)], [], LH L I R u) = some (18 + 2, [vR 0, vR 3, vR 301, vI (6 * (k + 1) : Nat)], [], LH L I2 R2 u2) ∧ Sok (k + 1) σ' ∧ CI σ' I2 R2 ∧ RI σ' I2 ∧ I2 0 = xs := by
  obtain ⟨v, σ', I1, R1, I2, u2, r1, r2, hv, s1, s2, s3', e1, e2⟩ := z_sums (L := L) (v0 := u) hs (by omega) hC hR (hx (6 * k + 1)) (hx (6 * k + 2)) (hx (6 * k + 3)) (hx (6 * k + 4)) (hx (6 * k + 5))
  rw [h0] at e1
  refine ⟨I2, R1, u2, σ', ?_, s1, s2, s3', e2.trans h0⟩
  unfold wL_law_18
  apply t_Q
  · unfold pL_law_18
    apply t_B
    · refine x_iload_n rfl ?_
      refine x_aload_n rfl ?_
      refine x_alen (Or.inr tg_0) ?_
      rw [show ln L 0 = L from if_pos rfl]
      refine x_bipush ?_
      refine x_isub ?_
      exact rfl
    exact t_ic_gt_f (by omega)
  apply t_Q
  · unfold pL_law_27
    apply t_S
    refine x_aload_n rfl ?_
    refine x_iload_n rfl ?_
    refine x_ialdv (Or.inr tg_0) (if_pos rfl) (by omega) (show _ = xs (6 * k) by rw [h0, Int.toNat_natCast]) ?_
    refine x_bipush ?_
    refine x_iand (by have := hx (6 * k); omega) ?_
    rw [show xs (6 * k) % (31 + 1) = xs (6 * k) % 32 from rfl, hc]
    exact rfl
  apply t_Q
  · apply t_K
    apply t_Qs
    apply t_Ks
    · apply t_Qs
      apply t_Ks
      · apply t_Qs
        apply t_Ks
        · apply t_Qs
          apply t_Ks
          · apply t_Qs
            apply t_Ks
            · apply t_Qs
              apply t_Ks
              · apply t_Qs
                apply t_Ks
                · apply t_Qs
                  apply t_Ks
                  · apply t_Qs
                    apply t_Ks
                    · apply t_Qs
                      apply t_Ks
                      · apply t_Qs
                        apply t_Ks
                        · apply t_Qs
                          apply t_Ks
                          · apply t_Qs
                            apply t_Ks
                            · apply t_Qs
                              apply t_Ks
                              · apply t_Qs
                                apply t_Ks
                                · apply t_Qs
                                  apply t_Ks
                                  · apply t_Qs
                                    apply t_Ks
                                    · apply t_Qs
                                      apply t_Ks
                                      · apply t_Qs
                                        apply t_Ks
                                        · apply t_Qs
                                          apply t_Ks
                                          · apply t_Qs
                                            apply t_Ks
                                            · apply t_Qs
                                              apply t_Ks
                                              · apply t_Qs
                                                apply t_Ks
                                                · apply t_Q
                                                  · apply t_K
                                                    apply t_Qs
                                                    apply t_Ks
                                                    · apply t_Qs
                                                      apply t_Ks
                                                      · unfold pL_law_33
                                                        apply t_B
                                                        · exact rfl
                                                        exact t_swi (by omega) rfl
                                                      · decide
                                                    · decide
                                                  apply t_Qs
                                                  unfold pL_law_248
                                                  apply t_B
                                                  · refine x_aload_n rfl ?_
                                                    refine x_aload_n rfl ?_
                                                    refine x_iload_n rfl ?_
                                                    refine x_iconst ?_
                                                    refine x_iadd ?_
                                                    refine x_ialdv (Or.inr tg_0) (if_pos rfl) (by omega) (show _ = xs (6 * k + 1) by rw [h0, show (((6 * k : Nat) : Int) + 1).toNat = 6 * k + 1 by omega]) ?_
                                                    refine x_aload_n rfl ?_
                                                    refine x_iload_n rfl ?_
                                                    refine x_iconst ?_
                                                    refine x_iadd ?_
                                                    refine x_ialdv (Or.inr tg_0) (if_pos rfl) (by omega) (show _ = xs (6 * k + 2) by rw [h0, show (((6 * k : Nat) : Int) + 2).toNat = 6 * k + 2 by omega]) ?_
                                                    refine x_aload_n rfl ?_
                                                    refine x_iload_n rfl ?_
                                                    refine x_iconst ?_
                                                    refine x_iadd ?_
                                                    refine x_ialdv (Or.inr tg_0) (if_pos rfl) (by omega) (show _ = xs (6 * k + 3) by rw [h0, show (((6 * k : Nat) : Int) + 3).toNat = 6 * k + 3 by omega]) ?_
                                                    refine x_aload_n rfl ?_
                                                    refine x_iload_n rfl ?_
                                                    refine x_iconst ?_
                                                    refine x_iadd ?_
                                                    refine x_ialdv (Or.inr tg_0) (if_pos rfl) (by omega) (show _ = xs (6 * k + 4) by rw [h0, show (((6 * k : Nat) : Int) + 4).toNat = 6 * k + 4 by omega]) ?_
                                                    refine x_aload_n rfl ?_
                                                    refine x_iload_n rfl ?_
                                                    refine x_iconst ?_
                                                    refine x_iadd ?_
                                                    refine x_ialdv (Or.inr tg_0) (if_pos rfl) (by omega) (show _ = xs (6 * k + 5) by rw [h0, show (((6 * k : Nat) : Int) + 5).toNat = 6 * k + 5 by omega]) ?_
                                                    refine x_V6i tg_3 (Nat.le_of_ble_eq_true rfl) r1 ?_
                                                    refine x_aload_n rfl ?_
                                                    refine x_aload_n rfl ?_
                                                    refine x_iload_n rfl ?_
                                                    refine x_iconst ?_
                                                    refine x_iadd ?_
                                                    refine x_ialdv (Or.inr tg_0) (if_pos rfl) (by omega) (show _ = xs (6 * k + 1) by rw [e1, show (((6 * k : Nat) : Int) + 1).toNat = 6 * k + 1 by omega]) ?_
                                                    refine x_aload_n rfl ?_
                                                    refine x_iload_n rfl ?_
                                                    refine x_iconst ?_
                                                    refine x_iadd ?_
                                                    refine x_ialdv (Or.inr tg_0) (if_pos rfl) (by omega) (show _ = xs (6 * k + 2) by rw [e1, show (((6 * k : Nat) : Int) + 2).toNat = 6 * k + 2 by omega]) ?_
                                                    refine x_aload_n rfl ?_
                                                    refine x_iload_n rfl ?_
                                                    refine x_iconst ?_
                                                    refine x_iadd ?_
                                                    refine x_ialdv (Or.inr tg_0) (if_pos rfl) (by omega) (show _ = xs (6 * k + 3) by rw [e1, show (((6 * k : Nat) : Int) + 3).toNat = 6 * k + 3 by omega]) ?_
                                                    refine x_aload_n rfl ?_
                                                    refine x_iload_n rfl ?_
                                                    refine x_iconst ?_
                                                    refine x_iadd ?_
                                                    refine x_ialdv (Or.inr tg_0) (if_pos rfl) (by omega) (show _ = xs (6 * k + 4) by rw [e1, show (((6 * k : Nat) : Int) + 4).toNat = 6 * k + 4 by omega]) ?_
                                                    refine x_aload_n rfl ?_
                                                    refine x_iload_n rfl ?_
                                                    refine x_iconst ?_
                                                    refine x_iadd ?_
                                                    refine x_ialdv (Or.inr tg_0) (if_pos rfl) (by omega) (show _ = xs (6 * k + 5) by rw [e1, show (((6 * k : Nat) : Int) + 5).toNat = 6 * k + 5 by omega]) ?_
                                                    refine x_V6i tg_301 (Nat.le_of_ble_eq_true rfl) r2 ?_
                                                    exact rfl
                                                  exact t_ic_eq_t ⟨hv, hv, rfl⟩
                                                · decide
                                              · decide
                                            · decide
                                          · decide
                                        · decide
                                      · decide
                                    · decide
                                  · decide
                                · decide
                              · decide
                            · decide
                          · decide
                        · decide
                      · decide
                    · decide
                  · decide
                · decide
              · decide
            · decide
          · decide
        · decide
      · decide
    · decide
  unfold pL_law_1041
  apply t_B
  · refine x_iinc rfl rfl ?_
    exact rfl
  exact t_goeq (s3 (by rw [show ((6 * k : Nat) : Int) + 6 = ((6 * (k + 1) : Nat) : Int) by omega]; rfl) rfl)
set_option maxRecDepth 10000 in
theorem l_times {L k : Nat} {xs : Nat → Int} (hL : L ≤ 3072) (hx : ∀ j, inR (xs j)) (hk : 6 * k + 6 ≤ L) {I : Nat → Nat → Int} {R : Nat → Nat → Option Nat} {u : Int64} {σ : Sg} (hs : Sok k σ) (hC : CI σ I R) (hR : RI σ I) (h0 : I 0 = xs) (hc : xs (6 * k) % 32 = 3) : ∃ I2 R2 u2 σ', am_ev (am_run am_tb 60) wL_law_18 ([vR 0, vR 3, vR 301, vI (6 * k : Nat)], [], LH L I R u) = some (18 + 2, [vR 0, vR 3, vR 301, vI (6 * (k + 1) : Nat)], [], LH L I2 R2 u2) ∧ Sok (k + 1) σ' ∧ CI σ' I2 R2 ∧ RI σ' I2 ∧ I2 0 = xs := by
  obtain ⟨v, σ', I1, R1, I2, u2, r1, r2, hv, s1, s2, s3', e1, e2⟩ := z_times (L := L) (v0 := u) hs (by omega) hC hR (hx (6 * k + 1)) (hx (6 * k + 2)) (hx (6 * k + 3))
  rw [h0] at e1
  refine ⟨I2, R1, u2, σ', ?_, s1, s2, s3', e2.trans h0⟩
  unfold wL_law_18
  apply t_Q
  · unfold pL_law_18
    apply t_B
    · refine x_iload_n rfl ?_
      refine x_aload_n rfl ?_
      refine x_alen (Or.inr tg_0) ?_
      rw [show ln L 0 = L from if_pos rfl]
      refine x_bipush ?_
      refine x_isub ?_
      exact rfl
    exact t_ic_gt_f (by omega)
  apply t_Q
  · unfold pL_law_27
    apply t_S
    refine x_aload_n rfl ?_
    refine x_iload_n rfl ?_
    refine x_ialdv (Or.inr tg_0) (if_pos rfl) (by omega) (show _ = xs (6 * k) by rw [h0, Int.toNat_natCast]) ?_
    refine x_bipush ?_
    refine x_iand (by have := hx (6 * k); omega) ?_
    rw [show xs (6 * k) % (31 + 1) = xs (6 * k) % 32 from rfl, hc]
    exact rfl
  apply t_Q
  · apply t_K
    apply t_Qs
    apply t_Ks
    · apply t_Qs
      apply t_Ks
      · apply t_Qs
        apply t_Ks
        · apply t_Qs
          apply t_Ks
          · apply t_Qs
            apply t_Ks
            · apply t_Qs
              apply t_Ks
              · apply t_Qs
                apply t_Ks
                · apply t_Qs
                  apply t_Ks
                  · apply t_Qs
                    apply t_Ks
                    · apply t_Qs
                      apply t_Ks
                      · apply t_Qs
                        apply t_Ks
                        · apply t_Qs
                          apply t_Ks
                          · apply t_Qs
                            apply t_Ks
                            · apply t_Qs
                              apply t_Ks
                              · apply t_Qs
                                apply t_Ks
                                · apply t_Qs
                                  apply t_Ks
                                  · apply t_Qs
                                    apply t_Ks
                                    · apply t_Qs
                                      apply t_Ks
                                      · apply t_Qs
                                        apply t_Ks
                                        · apply t_Qs
                                          apply t_Ks
                                          · apply t_Qs
                                            apply t_Ks
                                            · apply t_Qs
                                              apply t_Ks
                                              · apply t_Q
                                                · apply t_K
                                                  apply t_Qs
                                                  apply t_Ks
                                                  · apply t_Qs
                                                    apply t_Ks
                                                    · apply t_Qs
                                                      apply t_Ks
                                                      · unfold pL_law_33
                                                        apply t_B
                                                        · exact rfl
                                                        exact t_swi (by omega) rfl
                                                      · decide
                                                    · decide
                                                  · decide
                                                apply t_Qs
                                                unfold pL_law_311
                                                apply t_B
                                                · refine x_aload_n rfl ?_
                                                  refine x_aload_n rfl ?_
                                                  refine x_iload_n rfl ?_
                                                  refine x_iconst ?_
                                                  refine x_iadd ?_
                                                  refine x_ialdv (Or.inr tg_0) (if_pos rfl) (by omega) (show _ = xs (6 * k + 1) by rw [h0, show (((6 * k : Nat) : Int) + 1).toNat = 6 * k + 1 by omega]) ?_
                                                  refine x_aload_n rfl ?_
                                                  refine x_iload_n rfl ?_
                                                  refine x_iconst ?_
                                                  refine x_iadd ?_
                                                  refine x_ialdv (Or.inr tg_0) (if_pos rfl) (by omega) (show _ = xs (6 * k + 2) by rw [h0, show (((6 * k : Nat) : Int) + 2).toNat = 6 * k + 2 by omega]) ?_
                                                  refine x_aload_n rfl ?_
                                                  refine x_iload_n rfl ?_
                                                  refine x_iconst ?_
                                                  refine x_iadd ?_
                                                  refine x_ialdv (Or.inr tg_0) (if_pos rfl) (by omega) (show _ = xs (6 * k + 3) by rw [h0, show (((6 * k : Nat) : Int) + 3).toNat = 6 * k + 3 by omega]) ?_
                                                  refine x_V4i tg_3 (Nat.le_of_ble_eq_true rfl) r1 ?_
                                                  refine x_aload_n rfl ?_
                                                  refine x_aload_n rfl ?_
                                                  refine x_iload_n rfl ?_
                                                  refine x_iconst ?_
                                                  refine x_iadd ?_
                                                  refine x_ialdv (Or.inr tg_0) (if_pos rfl) (by omega) (show _ = xs (6 * k + 1) by rw [e1, show (((6 * k : Nat) : Int) + 1).toNat = 6 * k + 1 by omega]) ?_
                                                  refine x_aload_n rfl ?_
                                                  refine x_iload_n rfl ?_
                                                  refine x_iconst ?_
                                                  refine x_iadd ?_
                                                  refine x_ialdv (Or.inr tg_0) (if_pos rfl) (by omega) (show _ = xs (6 * k + 2) by rw [e1, show (((6 * k : Nat) : Int) + 2).toNat = 6 * k + 2 by omega]) ?_
                                                  refine x_aload_n rfl ?_
                                                  refine x_iload_n rfl ?_
                                                  refine x_iconst ?_
                                                  refine x_iadd ?_
                                                  refine x_ialdv (Or.inr tg_0) (if_pos rfl) (by omega) (show _ = xs (6 * k + 3) by rw [e1, show (((6 * k : Nat) : Int) + 3).toNat = 6 * k + 3 by omega]) ?_
                                                  refine x_V4i tg_301 (Nat.le_of_ble_eq_true rfl) r2 ?_
                                                  exact rfl
                                                exact t_ic_eq_t ⟨hv, hv, rfl⟩
                                              · decide
                                            · decide
                                          · decide
                                        · decide
                                      · decide
                                    · decide
                                  · decide
                                · decide
                              · decide
                            · decide
                          · decide
                        · decide
                      · decide
                    · decide
                  · decide
                · decide
              · decide
            · decide
          · decide
        · decide
      · decide
    · decide
  unfold pL_law_1041
  apply t_B
  · refine x_iinc rfl rfl ?_
    exact rfl
  exact t_goeq (s3 (by rw [show ((6 * k : Nat) : Int) + 6 = ((6 * (k + 1) : Nat) : Int) by omega]; rfl) rfl)
set_option maxRecDepth 10000 in
theorem l_bracket {L k : Nat} {xs : Nat → Int} (hL : L ≤ 3072) (hx : ∀ j, inR (xs j)) (hk : 6 * k + 6 ≤ L) {I : Nat → Nat → Int} {R : Nat → Nat → Option Nat} {u : Int64} {σ : Sg} (hs : Sok k σ) (hC : CI σ I R) (hR : RI σ I) (h0 : I 0 = xs) (hc : xs (6 * k) % 32 = 4) : ∃ I2 R2 u2 σ', am_ev (am_run am_tb 60) wL_law_18 ([vR 0, vR 3, vR 301, vI (6 * k : Nat)], [], LH L I R u) = some (18 + 2, [vR 0, vR 3, vR 301, vI (6 * (k + 1) : Nat)], [], LH L I2 R2 u2) ∧ Sok (k + 1) σ' ∧ CI σ' I2 R2 ∧ RI σ' I2 ∧ I2 0 = xs := by
  obtain ⟨v, σ', I1, R1, I2, u2, r1, r2, hv, s1, s2, s3', e1, e2⟩ := z_bracket (L := L) (v0 := u) hs (by omega) hC hR (hx (6 * k + 1)) (hx (6 * k + 2)) (hx (6 * k + 3))
  rw [h0] at e1
  refine ⟨I2, R1, u2, σ', ?_, s1, s2, s3', e2.trans h0⟩
  unfold wL_law_18
  apply t_Q
  · unfold pL_law_18
    apply t_B
    · refine x_iload_n rfl ?_
      refine x_aload_n rfl ?_
      refine x_alen (Or.inr tg_0) ?_
      rw [show ln L 0 = L from if_pos rfl]
      refine x_bipush ?_
      refine x_isub ?_
      exact rfl
    exact t_ic_gt_f (by omega)
  apply t_Q
  · unfold pL_law_27
    apply t_S
    refine x_aload_n rfl ?_
    refine x_iload_n rfl ?_
    refine x_ialdv (Or.inr tg_0) (if_pos rfl) (by omega) (show _ = xs (6 * k) by rw [h0, Int.toNat_natCast]) ?_
    refine x_bipush ?_
    refine x_iand (by have := hx (6 * k); omega) ?_
    rw [show xs (6 * k) % (31 + 1) = xs (6 * k) % 32 from rfl, hc]
    exact rfl
  apply t_Q
  · apply t_K
    apply t_Qs
    apply t_Ks
    · apply t_Qs
      apply t_Ks
      · apply t_Qs
        apply t_Ks
        · apply t_Qs
          apply t_Ks
          · apply t_Qs
            apply t_Ks
            · apply t_Qs
              apply t_Ks
              · apply t_Qs
                apply t_Ks
                · apply t_Qs
                  apply t_Ks
                  · apply t_Qs
                    apply t_Ks
                    · apply t_Qs
                      apply t_Ks
                      · apply t_Qs
                        apply t_Ks
                        · apply t_Qs
                          apply t_Ks
                          · apply t_Qs
                            apply t_Ks
                            · apply t_Qs
                              apply t_Ks
                              · apply t_Qs
                                apply t_Ks
                                · apply t_Qs
                                  apply t_Ks
                                  · apply t_Qs
                                    apply t_Ks
                                    · apply t_Qs
                                      apply t_Ks
                                      · apply t_Qs
                                        apply t_Ks
                                        · apply t_Qs
                                          apply t_Ks
                                          · apply t_Qs
                                            apply t_Ks
                                            · apply t_Q
                                              · apply t_K
                                                apply t_Qs
                                                apply t_Ks
                                                · apply t_Qs
                                                  apply t_Ks
                                                  · apply t_Qs
                                                    apply t_Ks
                                                    · apply t_Qs
                                                      apply t_Ks
                                                      · unfold pL_law_33
                                                        apply t_B
                                                        · exact rfl
                                                        exact t_swi (by omega) rfl
                                                      · decide
                                                    · decide
                                                  · decide
                                                · decide
                                              apply t_Qs
                                              unfold pL_law_354
                                              apply t_B
                                              · refine x_aload_n rfl ?_
                                                refine x_aload_n rfl ?_
                                                refine x_iload_n rfl ?_
                                                refine x_iconst ?_
                                                refine x_iadd ?_
                                                refine x_ialdv (Or.inr tg_0) (if_pos rfl) (by omega) (show _ = xs (6 * k + 1) by rw [h0, show (((6 * k : Nat) : Int) + 1).toNat = 6 * k + 1 by omega]) ?_
                                                refine x_aload_n rfl ?_
                                                refine x_iload_n rfl ?_
                                                refine x_iconst ?_
                                                refine x_iadd ?_
                                                refine x_ialdv (Or.inr tg_0) (if_pos rfl) (by omega) (show _ = xs (6 * k + 2) by rw [h0, show (((6 * k : Nat) : Int) + 2).toNat = 6 * k + 2 by omega]) ?_
                                                refine x_aload_n rfl ?_
                                                refine x_iload_n rfl ?_
                                                refine x_iconst ?_
                                                refine x_iadd ?_
                                                refine x_ialdv (Or.inr tg_0) (if_pos rfl) (by omega) (show _ = xs (6 * k + 3) by rw [h0, show (((6 * k : Nat) : Int) + 3).toNat = 6 * k + 3 by omega]) ?_
                                                refine x_V4i tg_3 (Nat.le_of_ble_eq_true rfl) r1 ?_
                                                refine x_aload_n rfl ?_
                                                refine x_aload_n rfl ?_
                                                refine x_iload_n rfl ?_
                                                refine x_iconst ?_
                                                refine x_iadd ?_
                                                refine x_ialdv (Or.inr tg_0) (if_pos rfl) (by omega) (show _ = xs (6 * k + 1) by rw [e1, show (((6 * k : Nat) : Int) + 1).toNat = 6 * k + 1 by omega]) ?_
                                                refine x_aload_n rfl ?_
                                                refine x_iload_n rfl ?_
                                                refine x_iconst ?_
                                                refine x_iadd ?_
                                                refine x_ialdv (Or.inr tg_0) (if_pos rfl) (by omega) (show _ = xs (6 * k + 2) by rw [e1, show (((6 * k : Nat) : Int) + 2).toNat = 6 * k + 2 by omega]) ?_
                                                refine x_aload_n rfl ?_
                                                refine x_iload_n rfl ?_
                                                refine x_iconst ?_
                                                refine x_iadd ?_
                                                refine x_ialdv (Or.inr tg_0) (if_pos rfl) (by omega) (show _ = xs (6 * k + 3) by rw [e1, show (((6 * k : Nat) : Int) + 3).toNat = 6 * k + 3 by omega]) ?_
                                                refine x_V4i tg_301 (Nat.le_of_ble_eq_true rfl) r2 ?_
                                                exact rfl
                                              exact t_ic_eq_t ⟨hv, hv, rfl⟩
                                            · decide
                                          · decide
                                        · decide
                                      · decide
                                    · decide
                                  · decide
                                · decide
                              · decide
                            · decide
                          · decide
                        · decide
                      · decide
                    · decide
                  · decide
                · decide
              · decide
            · decide
          · decide
        · decide
      · decide
    · decide
  unfold pL_law_1041
  apply t_B
  · refine x_iinc rfl rfl ?_
    exact rfl
  exact t_goeq (s3 (by rw [show ((6 * k : Nat) : Int) + 6 = ((6 * (k + 1) : Nat) : Int) by omega]; rfl) rfl)
set_option maxRecDepth 10000 in
theorem l_power {L k : Nat} {xs : Nat → Int} (hL : L ≤ 3072) (hx : ∀ j, inR (xs j)) (hk : 6 * k + 6 ≤ L) {I : Nat → Nat → Int} {R : Nat → Nat → Option Nat} {u : Int64} {σ : Sg} (hs : Sok k σ) (hC : CI σ I R) (hR : RI σ I) (h0 : I 0 = xs) (hc : xs (6 * k) % 32 = 5) : ∃ I2 R2 u2 σ', am_ev (am_run am_tb 60) wL_law_18 ([vR 0, vR 3, vR 301, vI (6 * k : Nat)], [], LH L I R u) = some (18 + 2, [vR 0, vR 3, vR 301, vI (6 * (k + 1) : Nat)], [], LH L I2 R2 u2) ∧ Sok (k + 1) σ' ∧ CI σ' I2 R2 ∧ RI σ' I2 ∧ I2 0 = xs := by
  obtain ⟨v, σ', I1, R1, I2, u2, r1, r2, hv, s1, s2, s3', e1, e2⟩ := z_power (L := L) (v0 := u) hs (by omega) hC hR (hx (6 * k + 1)) (hx (6 * k + 2)) (hx (6 * k + 3))
  rw [h0] at e1
  refine ⟨I2, R1, u2, σ', ?_, s1, s2, s3', e2.trans h0⟩
  unfold wL_law_18
  apply t_Q
  · unfold pL_law_18
    apply t_B
    · refine x_iload_n rfl ?_
      refine x_aload_n rfl ?_
      refine x_alen (Or.inr tg_0) ?_
      rw [show ln L 0 = L from if_pos rfl]
      refine x_bipush ?_
      refine x_isub ?_
      exact rfl
    exact t_ic_gt_f (by omega)
  apply t_Q
  · unfold pL_law_27
    apply t_S
    refine x_aload_n rfl ?_
    refine x_iload_n rfl ?_
    refine x_ialdv (Or.inr tg_0) (if_pos rfl) (by omega) (show _ = xs (6 * k) by rw [h0, Int.toNat_natCast]) ?_
    refine x_bipush ?_
    refine x_iand (by have := hx (6 * k); omega) ?_
    rw [show xs (6 * k) % (31 + 1) = xs (6 * k) % 32 from rfl, hc]
    exact rfl
  apply t_Q
  · apply t_K
    apply t_Qs
    apply t_Ks
    · apply t_Qs
      apply t_Ks
      · apply t_Qs
        apply t_Ks
        · apply t_Qs
          apply t_Ks
          · apply t_Qs
            apply t_Ks
            · apply t_Qs
              apply t_Ks
              · apply t_Qs
                apply t_Ks
                · apply t_Qs
                  apply t_Ks
                  · apply t_Qs
                    apply t_Ks
                    · apply t_Qs
                      apply t_Ks
                      · apply t_Qs
                        apply t_Ks
                        · apply t_Qs
                          apply t_Ks
                          · apply t_Qs
                            apply t_Ks
                            · apply t_Qs
                              apply t_Ks
                              · apply t_Qs
                                apply t_Ks
                                · apply t_Qs
                                  apply t_Ks
                                  · apply t_Qs
                                    apply t_Ks
                                    · apply t_Qs
                                      apply t_Ks
                                      · apply t_Qs
                                        apply t_Ks
                                        · apply t_Qs
                                          apply t_Ks
                                          · apply t_Q
                                            · apply t_K
                                              apply t_Qs
                                              apply t_Ks
                                              · apply t_Qs
                                                apply t_Ks
                                                · apply t_Qs
                                                  apply t_Ks
                                                  · apply t_Qs
                                                    apply t_Ks
                                                    · apply t_Qs
                                                      apply t_Ks
                                                      · unfold pL_law_33
                                                        apply t_B
                                                        · exact rfl
                                                        exact t_swi (by omega) rfl
                                                      · decide
                                                    · decide
                                                  · decide
                                                · decide
                                              · decide
                                            apply t_Qs
                                            unfold pL_law_397
                                            apply t_B
                                            · refine x_aload_n rfl ?_
                                              refine x_aload_n rfl ?_
                                              refine x_iload_n rfl ?_
                                              refine x_iconst ?_
                                              refine x_iadd ?_
                                              refine x_ialdv (Or.inr tg_0) (if_pos rfl) (by omega) (show _ = xs (6 * k + 1) by rw [h0, show (((6 * k : Nat) : Int) + 1).toNat = 6 * k + 1 by omega]) ?_
                                              refine x_aload_n rfl ?_
                                              refine x_iload_n rfl ?_
                                              refine x_iconst ?_
                                              refine x_iadd ?_
                                              refine x_ialdv (Or.inr tg_0) (if_pos rfl) (by omega) (show _ = xs (6 * k + 2) by rw [h0, show (((6 * k : Nat) : Int) + 2).toNat = 6 * k + 2 by omega]) ?_
                                              refine x_aload_n rfl ?_
                                              refine x_iload_n rfl ?_
                                              refine x_iconst ?_
                                              refine x_iadd ?_
                                              refine x_ialdv (Or.inr tg_0) (if_pos rfl) (by omega) (show _ = xs (6 * k + 3) by rw [h0, show (((6 * k : Nat) : Int) + 3).toNat = 6 * k + 3 by omega]) ?_
                                              refine x_V4i tg_3 (Nat.le_of_ble_eq_true rfl) r1 ?_
                                              refine x_aload_n rfl ?_
                                              refine x_aload_n rfl ?_
                                              refine x_iload_n rfl ?_
                                              refine x_iconst ?_
                                              refine x_iadd ?_
                                              refine x_ialdv (Or.inr tg_0) (if_pos rfl) (by omega) (show _ = xs (6 * k + 1) by rw [e1, show (((6 * k : Nat) : Int) + 1).toNat = 6 * k + 1 by omega]) ?_
                                              refine x_aload_n rfl ?_
                                              refine x_iload_n rfl ?_
                                              refine x_iconst ?_
                                              refine x_iadd ?_
                                              refine x_ialdv (Or.inr tg_0) (if_pos rfl) (by omega) (show _ = xs (6 * k + 2) by rw [e1, show (((6 * k : Nat) : Int) + 2).toNat = 6 * k + 2 by omega]) ?_
                                              refine x_aload_n rfl ?_
                                              refine x_iload_n rfl ?_
                                              refine x_iconst ?_
                                              refine x_iadd ?_
                                              refine x_ialdv (Or.inr tg_0) (if_pos rfl) (by omega) (show _ = xs (6 * k + 3) by rw [e1, show (((6 * k : Nat) : Int) + 3).toNat = 6 * k + 3 by omega]) ?_
                                              refine x_V4i tg_301 (Nat.le_of_ble_eq_true rfl) r2 ?_
                                              exact rfl
                                            exact t_ic_eq_t ⟨hv, hv, rfl⟩
                                          · decide
                                        · decide
                                      · decide
                                    · decide
                                  · decide
                                · decide
                              · decide
                            · decide
                          · decide
                        · decide
                      · decide
                    · decide
                  · decide
                · decide
              · decide
            · decide
          · decide
        · decide
      · decide
    · decide
  unfold pL_law_1041
  apply t_B
  · refine x_iinc rfl rfl ?_
    exact rfl
  exact t_goeq (s3 (by rw [show ((6 * k : Nat) : Int) + 6 = ((6 * (k + 1) : Nat) : Int) by omega]; rfl) rfl)
set_option maxRecDepth 10000 in
theorem l_reversed {L k : Nat} {xs : Nat → Int} (hL : L ≤ 3072) (hx : ∀ j, inR (xs j)) (hk : 6 * k + 6 ≤ L) {I : Nat → Nat → Int} {R : Nat → Nat → Option Nat} {u : Int64} {σ : Sg} (hs : Sok k σ) (hC : CI σ I R) (hR : RI σ I) (h0 : I 0 = xs) (hc : xs (6 * k) % 32 = 6) : ∃ I2 R2 u2 σ', am_ev (am_run am_tb 60) wL_law_18 ([vR 0, vR 3, vR 301, vI (6 * k : Nat)], [], LH L I R u) = some (18 + 2, [vR 0, vR 3, vR 301, vI (6 * (k + 1) : Nat)], [], LH L I2 R2 u2) ∧ Sok (k + 1) σ' ∧ CI σ' I2 R2 ∧ RI σ' I2 ∧ I2 0 = xs := by
  obtain ⟨v, σ', I1, R1, I2, u2, r1, r2, hv, s1, s2, s3', e1, e2⟩ := z_reversed (L := L) (v0 := u) hs (by omega) hC hR (hx (6 * k + 1)) (hx (6 * k + 2))
  rw [h0] at e1
  refine ⟨I2, R1, u2, σ', ?_, s1, s2, s3', e2.trans h0⟩
  unfold wL_law_18
  apply t_Q
  · unfold pL_law_18
    apply t_B
    · refine x_iload_n rfl ?_
      refine x_aload_n rfl ?_
      refine x_alen (Or.inr tg_0) ?_
      rw [show ln L 0 = L from if_pos rfl]
      refine x_bipush ?_
      refine x_isub ?_
      exact rfl
    exact t_ic_gt_f (by omega)
  apply t_Q
  · unfold pL_law_27
    apply t_S
    refine x_aload_n rfl ?_
    refine x_iload_n rfl ?_
    refine x_ialdv (Or.inr tg_0) (if_pos rfl) (by omega) (show _ = xs (6 * k) by rw [h0, Int.toNat_natCast]) ?_
    refine x_bipush ?_
    refine x_iand (by have := hx (6 * k); omega) ?_
    rw [show xs (6 * k) % (31 + 1) = xs (6 * k) % 32 from rfl, hc]
    exact rfl
  apply t_Q
  · apply t_K
    apply t_Qs
    apply t_Ks
    · apply t_Qs
      apply t_Ks
      · apply t_Qs
        apply t_Ks
        · apply t_Qs
          apply t_Ks
          · apply t_Qs
            apply t_Ks
            · apply t_Qs
              apply t_Ks
              · apply t_Qs
                apply t_Ks
                · apply t_Qs
                  apply t_Ks
                  · apply t_Qs
                    apply t_Ks
                    · apply t_Qs
                      apply t_Ks
                      · apply t_Qs
                        apply t_Ks
                        · apply t_Qs
                          apply t_Ks
                          · apply t_Qs
                            apply t_Ks
                            · apply t_Qs
                              apply t_Ks
                              · apply t_Qs
                                apply t_Ks
                                · apply t_Qs
                                  apply t_Ks
                                  · apply t_Qs
                                    apply t_Ks
                                    · apply t_Qs
                                      apply t_Ks
                                      · apply t_Qs
                                        apply t_Ks
                                        · apply t_Q
                                          · apply t_K
                                            apply t_Qs
                                            apply t_Ks
                                            · apply t_Qs
                                              apply t_Ks
                                              · apply t_Qs
                                                apply t_Ks
                                                · apply t_Qs
                                                  apply t_Ks
                                                  · apply t_Qs
                                                    apply t_Ks
                                                    · apply t_Qs
                                                      apply t_Ks
                                                      · unfold pL_law_33
                                                        apply t_B
                                                        · exact rfl
                                                        exact t_swi (by omega) rfl
                                                      · decide
                                                    · decide
                                                  · decide
                                                · decide
                                              · decide
                                            · decide
                                          apply t_Qs
                                          unfold pL_law_440
                                          apply t_B
                                          · refine x_aload_n rfl ?_
                                            refine x_aload_n rfl ?_
                                            refine x_iload_n rfl ?_
                                            refine x_iconst ?_
                                            refine x_iadd ?_
                                            refine x_ialdv (Or.inr tg_0) (if_pos rfl) (by omega) (show _ = xs (6 * k + 1) by rw [h0, show (((6 * k : Nat) : Int) + 1).toNat = 6 * k + 1 by omega]) ?_
                                            refine x_aload_n rfl ?_
                                            refine x_iload_n rfl ?_
                                            refine x_iconst ?_
                                            refine x_iadd ?_
                                            refine x_ialdv (Or.inr tg_0) (if_pos rfl) (by omega) (show _ = xs (6 * k + 2) by rw [h0, show (((6 * k : Nat) : Int) + 2).toNat = 6 * k + 2 by omega]) ?_
                                            refine x_V3i tg_3 (Nat.le_of_ble_eq_true rfl) r1 ?_
                                            refine x_aload_n rfl ?_
                                            refine x_aload_n rfl ?_
                                            refine x_iload_n rfl ?_
                                            refine x_iconst ?_
                                            refine x_iadd ?_
                                            refine x_ialdv (Or.inr tg_0) (if_pos rfl) (by omega) (show _ = xs (6 * k + 1) by rw [e1, show (((6 * k : Nat) : Int) + 1).toNat = 6 * k + 1 by omega]) ?_
                                            refine x_aload_n rfl ?_
                                            refine x_iload_n rfl ?_
                                            refine x_iconst ?_
                                            refine x_iadd ?_
                                            refine x_ialdv (Or.inr tg_0) (if_pos rfl) (by omega) (show _ = xs (6 * k + 2) by rw [e1, show (((6 * k : Nat) : Int) + 2).toNat = 6 * k + 2 by omega]) ?_
                                            refine x_V3i tg_301 (Nat.le_of_ble_eq_true rfl) r2 ?_
                                            exact rfl
                                          exact t_ic_eq_t ⟨hv, hv, rfl⟩
                                        · decide
                                      · decide
                                    · decide
                                  · decide
                                · decide
                              · decide
                            · decide
                          · decide
                        · decide
                      · decide
                    · decide
                  · decide
                · decide
              · decide
            · decide
          · decide
        · decide
      · decide
    · decide
  unfold pL_law_1041
  apply t_B
  · refine x_iinc rfl rfl ?_
    exact rfl
  exact t_goeq (s3 (by rw [show ((6 * k : Nat) : Int) + 6 = ((6 * (k + 1) : Nat) : Int) by omega]; rfl) rfl)
set_option maxRecDepth 10000 in
theorem l_of {L k : Nat} {xs : Nat → Int} (hL : L ≤ 3072) (hx : ∀ j, inR (xs j)) (hk : 6 * k + 6 ≤ L) {I : Nat → Nat → Int} {R : Nat → Nat → Option Nat} {u : Int64} {σ : Sg} (hs : Sok k σ) (hC : CI σ I R) (hR : RI σ I) (h0 : I 0 = xs) (hc : xs (6 * k) % 32 = 7) : ∃ I2 R2 u2 σ', am_ev (am_run am_tb 60) wL_law_18 ([vR 0, vR 3, vR 301, vI (6 * k : Nat)], [], LH L I R u) = some (18 + 2, [vR 0, vR 3, vR 301, vI (6 * (k + 1) : Nat)], [], LH L I2 R2 u2) ∧ Sok (k + 1) σ' ∧ CI σ' I2 R2 ∧ RI σ' I2 ∧ I2 0 = xs := by
  obtain ⟨v, σ', I1, R1, I2, u2, r1, r2, hv, s1, s2, s3', e1, e2⟩ := z_of (L := L) (v0 := u) hs (by omega) hC hR (hx (6 * k + 1)) (hx (6 * k + 2))
  rw [h0] at e1
  refine ⟨I2, R1, u2, σ', ?_, s1, s2, s3', e2.trans h0⟩
  unfold wL_law_18
  apply t_Q
  · unfold pL_law_18
    apply t_B
    · refine x_iload_n rfl ?_
      refine x_aload_n rfl ?_
      refine x_alen (Or.inr tg_0) ?_
      rw [show ln L 0 = L from if_pos rfl]
      refine x_bipush ?_
      refine x_isub ?_
      exact rfl
    exact t_ic_gt_f (by omega)
  apply t_Q
  · unfold pL_law_27
    apply t_S
    refine x_aload_n rfl ?_
    refine x_iload_n rfl ?_
    refine x_ialdv (Or.inr tg_0) (if_pos rfl) (by omega) (show _ = xs (6 * k) by rw [h0, Int.toNat_natCast]) ?_
    refine x_bipush ?_
    refine x_iand (by have := hx (6 * k); omega) ?_
    rw [show xs (6 * k) % (31 + 1) = xs (6 * k) % 32 from rfl, hc]
    exact rfl
  apply t_Q
  · apply t_K
    apply t_Qs
    apply t_Ks
    · apply t_Qs
      apply t_Ks
      · apply t_Qs
        apply t_Ks
        · apply t_Qs
          apply t_Ks
          · apply t_Qs
            apply t_Ks
            · apply t_Qs
              apply t_Ks
              · apply t_Qs
                apply t_Ks
                · apply t_Qs
                  apply t_Ks
                  · apply t_Qs
                    apply t_Ks
                    · apply t_Qs
                      apply t_Ks
                      · apply t_Qs
                        apply t_Ks
                        · apply t_Qs
                          apply t_Ks
                          · apply t_Qs
                            apply t_Ks
                            · apply t_Qs
                              apply t_Ks
                              · apply t_Qs
                                apply t_Ks
                                · apply t_Qs
                                  apply t_Ks
                                  · apply t_Qs
                                    apply t_Ks
                                    · apply t_Qs
                                      apply t_Ks
                                      · apply t_Q
                                        · apply t_K
                                          apply t_Qs
                                          apply t_Ks
                                          · apply t_Qs
                                            apply t_Ks
                                            · apply t_Qs
                                              apply t_Ks
                                              · apply t_Qs
                                                apply t_Ks
                                                · apply t_Qs
                                                  apply t_Ks
                                                  · apply t_Qs
                                                    apply t_Ks
                                                    · apply t_Qs
                                                      apply t_Ks
                                                      · unfold pL_law_33
                                                        apply t_B
                                                        · exact rfl
                                                        exact t_swi (by omega) rfl
                                                      · decide
                                                    · decide
                                                  · decide
                                                · decide
                                              · decide
                                            · decide
                                          · decide
                                        apply t_Qs
                                        unfold pL_law_473
                                        apply t_B
                                        · refine x_aload_n rfl ?_
                                          refine x_aload_n rfl ?_
                                          refine x_iload_n rfl ?_
                                          refine x_iconst ?_
                                          refine x_iadd ?_
                                          refine x_ialdv (Or.inr tg_0) (if_pos rfl) (by omega) (show _ = xs (6 * k + 1) by rw [h0, show (((6 * k : Nat) : Int) + 1).toNat = 6 * k + 1 by omega]) ?_
                                          refine x_aload_n rfl ?_
                                          refine x_iload_n rfl ?_
                                          refine x_iconst ?_
                                          refine x_iadd ?_
                                          refine x_ialdv (Or.inr tg_0) (if_pos rfl) (by omega) (show _ = xs (6 * k + 2) by rw [h0, show (((6 * k : Nat) : Int) + 2).toNat = 6 * k + 2 by omega]) ?_
                                          refine x_V3i tg_3 (Nat.le_of_ble_eq_true rfl) r1 ?_
                                          refine x_aload_n rfl ?_
                                          refine x_aload_n rfl ?_
                                          refine x_iload_n rfl ?_
                                          refine x_iconst ?_
                                          refine x_iadd ?_
                                          refine x_ialdv (Or.inr tg_0) (if_pos rfl) (by omega) (show _ = xs (6 * k + 1) by rw [e1, show (((6 * k : Nat) : Int) + 1).toNat = 6 * k + 1 by omega]) ?_
                                          refine x_aload_n rfl ?_
                                          refine x_iload_n rfl ?_
                                          refine x_iconst ?_
                                          refine x_iadd ?_
                                          refine x_ialdv (Or.inr tg_0) (if_pos rfl) (by omega) (show _ = xs (6 * k + 2) by rw [e1, show (((6 * k : Nat) : Int) + 2).toNat = 6 * k + 2 by omega]) ?_
                                          refine x_V3i tg_301 (Nat.le_of_ble_eq_true rfl) r2 ?_
                                          exact rfl
                                        exact t_ic_eq_t ⟨hv, hv, rfl⟩
                                      · decide
                                    · decide
                                  · decide
                                · decide
                              · decide
                            · decide
                          · decide
                        · decide
                      · decide
                    · decide
                  · decide
                · decide
              · decide
            · decide
          · decide
        · decide
      · decide
    · decide
  unfold pL_law_1041
  apply t_B
  · refine x_iinc rfl rfl ?_
    exact rfl
  exact t_goeq (s3 (by rw [show ((6 * k : Nat) : Int) + 6 = ((6 * (k + 1) : Nat) : Int) by omega]; rfl) rfl)
set_option maxRecDepth 10000 in
theorem l_order {L k : Nat} {xs : Nat → Int} (hL : L ≤ 3072) (hx : ∀ j, inR (xs j)) (hk : 6 * k + 6 ≤ L) {I : Nat → Nat → Int} {R : Nat → Nat → Option Nat} {u : Int64} {σ : Sg} (hs : Sok k σ) (hC : CI σ I R) (hR : RI σ I) (h0 : I 0 = xs) (hc : xs (6 * k) % 32 = 8) : ∃ I2 R2 u2 σ', am_ev (am_run am_tb 60) wL_law_18 ([vR 0, vR 3, vR 301, vI (6 * k : Nat)], [], LH L I R u) = some (18 + 2, [vR 0, vR 3, vR 301, vI (6 * (k + 1) : Nat)], [], LH L I2 R2 u2) ∧ Sok (k + 1) σ' ∧ CI σ' I2 R2 ∧ RI σ' I2 ∧ I2 0 = xs := by
  obtain ⟨v, σ', I1, R1, I2, u2, r1, r2, hv, s1, s2, s3', e1, e2⟩ := z_order (L := L) (v0 := u) hs (by omega) hC hR (hx (6 * k + 1))
  rw [h0] at e1
  refine ⟨I2, R1, u2, σ', ?_, s1, s2, s3', e2.trans h0⟩
  unfold wL_law_18
  apply t_Q
  · unfold pL_law_18
    apply t_B
    · refine x_iload_n rfl ?_
      refine x_aload_n rfl ?_
      refine x_alen (Or.inr tg_0) ?_
      rw [show ln L 0 = L from if_pos rfl]
      refine x_bipush ?_
      refine x_isub ?_
      exact rfl
    exact t_ic_gt_f (by omega)
  apply t_Q
  · unfold pL_law_27
    apply t_S
    refine x_aload_n rfl ?_
    refine x_iload_n rfl ?_
    refine x_ialdv (Or.inr tg_0) (if_pos rfl) (by omega) (show _ = xs (6 * k) by rw [h0, Int.toNat_natCast]) ?_
    refine x_bipush ?_
    refine x_iand (by have := hx (6 * k); omega) ?_
    rw [show xs (6 * k) % (31 + 1) = xs (6 * k) % 32 from rfl, hc]
    exact rfl
  apply t_Q
  · apply t_K
    apply t_Qs
    apply t_Ks
    · apply t_Qs
      apply t_Ks
      · apply t_Qs
        apply t_Ks
        · apply t_Qs
          apply t_Ks
          · apply t_Qs
            apply t_Ks
            · apply t_Qs
              apply t_Ks
              · apply t_Qs
                apply t_Ks
                · apply t_Qs
                  apply t_Ks
                  · apply t_Qs
                    apply t_Ks
                    · apply t_Qs
                      apply t_Ks
                      · apply t_Qs
                        apply t_Ks
                        · apply t_Qs
                          apply t_Ks
                          · apply t_Qs
                            apply t_Ks
                            · apply t_Qs
                              apply t_Ks
                              · apply t_Qs
                                apply t_Ks
                                · apply t_Qs
                                  apply t_Ks
                                  · apply t_Qs
                                    apply t_Ks
                                    · apply t_Q
                                      · apply t_K
                                        apply t_Qs
                                        apply t_Ks
                                        · apply t_Qs
                                          apply t_Ks
                                          · apply t_Qs
                                            apply t_Ks
                                            · apply t_Qs
                                              apply t_Ks
                                              · apply t_Qs
                                                apply t_Ks
                                                · apply t_Qs
                                                  apply t_Ks
                                                  · apply t_Qs
                                                    apply t_Ks
                                                    · apply t_Qs
                                                      apply t_Ks
                                                      · unfold pL_law_33
                                                        apply t_B
                                                        · exact rfl
                                                        exact t_swi (by omega) rfl
                                                      · decide
                                                    · decide
                                                  · decide
                                                · decide
                                              · decide
                                            · decide
                                          · decide
                                        · decide
                                      apply t_Qs
                                      unfold pL_law_506
                                      apply t_B
                                      · refine x_aload_n rfl ?_
                                        refine x_aload_n rfl ?_
                                        refine x_iload_n rfl ?_
                                        refine x_iconst ?_
                                        refine x_iadd ?_
                                        refine x_ialdv (Or.inr tg_0) (if_pos rfl) (by omega) (show _ = xs (6 * k + 1) by rw [h0, show (((6 * k : Nat) : Int) + 1).toNat = 6 * k + 1 by omega]) ?_
                                        refine x_V2i tg_3 (Nat.le_of_ble_eq_true rfl) r1 ?_
                                        refine x_aload_n rfl ?_
                                        refine x_aload_n rfl ?_
                                        refine x_iload_n rfl ?_
                                        refine x_iconst ?_
                                        refine x_iadd ?_
                                        refine x_ialdv (Or.inr tg_0) (if_pos rfl) (by omega) (show _ = xs (6 * k + 1) by rw [e1, show (((6 * k : Nat) : Int) + 1).toNat = 6 * k + 1 by omega]) ?_
                                        refine x_V2i tg_301 (Nat.le_of_ble_eq_true rfl) r2 ?_
                                        exact rfl
                                      exact t_ic_eq_t ⟨hv, hv, rfl⟩
                                    · decide
                                  · decide
                                · decide
                              · decide
                            · decide
                          · decide
                        · decide
                      · decide
                    · decide
                  · decide
                · decide
              · decide
            · decide
          · decide
        · decide
      · decide
    · decide
  unfold pL_law_1041
  apply t_B
  · refine x_iinc rfl rfl ?_
    exact rfl
  exact t_goeq (s3 (by rw [show ((6 * k : Nat) : Int) + 6 = ((6 * (k + 1) : Nat) : Int) by omega]; rfl) rfl)
set_option maxRecDepth 10000 in
theorem l_puts {L k : Nat} {xs : Nat → Int} (hL : L ≤ 3072) (hx : ∀ j, inR (xs j)) (hk : 6 * k + 6 ≤ L) {I : Nat → Nat → Int} {R : Nat → Nat → Option Nat} {u : Int64} {σ : Sg} (hs : Sok k σ) (hC : CI σ I R) (hR : RI σ I) (h0 : I 0 = xs) (hc : xs (6 * k) % 32 = 9) : ∃ I2 R2 u2 σ', am_ev (am_run am_tb 60) wL_law_18 ([vR 0, vR 3, vR 301, vI (6 * k : Nat)], [], LH L I R u) = some (18 + 2, [vR 0, vR 3, vR 301, vI (6 * (k + 1) : Nat)], [], LH L I2 R2 u2) ∧ Sok (k + 1) σ' ∧ CI σ' I2 R2 ∧ RI σ' I2 ∧ I2 0 = xs := by
  obtain ⟨v, σ', I1, R1, I2, u2, r1, r2, hv, s1, s2, s3', e1, e2⟩ := z_puts (L := L) (v0 := u) hs (by omega) hC hR (hx (6 * k + 1)) (hx (6 * k + 2)) (hx (6 * k + 3))
  rw [h0] at e1
  refine ⟨I2, R1, u2, σ', ?_, s1, s2, s3', e2.trans h0⟩
  unfold wL_law_18
  apply t_Q
  · unfold pL_law_18
    apply t_B
    · refine x_iload_n rfl ?_
      refine x_aload_n rfl ?_
      refine x_alen (Or.inr tg_0) ?_
      rw [show ln L 0 = L from if_pos rfl]
      refine x_bipush ?_
      refine x_isub ?_
      exact rfl
    exact t_ic_gt_f (by omega)
  apply t_Q
  · unfold pL_law_27
    apply t_S
    refine x_aload_n rfl ?_
    refine x_iload_n rfl ?_
    refine x_ialdv (Or.inr tg_0) (if_pos rfl) (by omega) (show _ = xs (6 * k) by rw [h0, Int.toNat_natCast]) ?_
    refine x_bipush ?_
    refine x_iand (by have := hx (6 * k); omega) ?_
    rw [show xs (6 * k) % (31 + 1) = xs (6 * k) % 32 from rfl, hc]
    exact rfl
  apply t_Q
  · apply t_K
    apply t_Qs
    apply t_Ks
    · apply t_Qs
      apply t_Ks
      · apply t_Qs
        apply t_Ks
        · apply t_Qs
          apply t_Ks
          · apply t_Qs
            apply t_Ks
            · apply t_Qs
              apply t_Ks
              · apply t_Qs
                apply t_Ks
                · apply t_Qs
                  apply t_Ks
                  · apply t_Qs
                    apply t_Ks
                    · apply t_Qs
                      apply t_Ks
                      · apply t_Qs
                        apply t_Ks
                        · apply t_Qs
                          apply t_Ks
                          · apply t_Qs
                            apply t_Ks
                            · apply t_Qs
                              apply t_Ks
                              · apply t_Qs
                                apply t_Ks
                                · apply t_Qs
                                  apply t_Ks
                                  · apply t_Q
                                    · apply t_K
                                      apply t_Qs
                                      apply t_Ks
                                      · apply t_Qs
                                        apply t_Ks
                                        · apply t_Qs
                                          apply t_Ks
                                          · apply t_Qs
                                            apply t_Ks
                                            · apply t_Qs
                                              apply t_Ks
                                              · apply t_Qs
                                                apply t_Ks
                                                · apply t_Qs
                                                  apply t_Ks
                                                  · apply t_Qs
                                                    apply t_Ks
                                                    · apply t_Qs
                                                      apply t_Ks
                                                      · unfold pL_law_33
                                                        apply t_B
                                                        · exact rfl
                                                        exact t_swi (by omega) rfl
                                                      · decide
                                                    · decide
                                                  · decide
                                                · decide
                                              · decide
                                            · decide
                                          · decide
                                        · decide
                                      · decide
                                    apply t_Qs
                                    unfold pL_law_529
                                    apply t_B
                                    · refine x_aload_n rfl ?_
                                      refine x_aload_n rfl ?_
                                      refine x_iload_n rfl ?_
                                      refine x_iconst ?_
                                      refine x_iadd ?_
                                      refine x_ialdv (Or.inr tg_0) (if_pos rfl) (by omega) (show _ = xs (6 * k + 1) by rw [h0, show (((6 * k : Nat) : Int) + 1).toNat = 6 * k + 1 by omega]) ?_
                                      refine x_aload_n rfl ?_
                                      refine x_iload_n rfl ?_
                                      refine x_iconst ?_
                                      refine x_iadd ?_
                                      refine x_ialdv (Or.inr tg_0) (if_pos rfl) (by omega) (show _ = xs (6 * k + 2) by rw [h0, show (((6 * k : Nat) : Int) + 2).toNat = 6 * k + 2 by omega]) ?_
                                      refine x_aload_n rfl ?_
                                      refine x_iload_n rfl ?_
                                      refine x_iconst ?_
                                      refine x_iadd ?_
                                      refine x_ialdv (Or.inr tg_0) (if_pos rfl) (by omega) (show _ = xs (6 * k + 3) by rw [h0, show (((6 * k : Nat) : Int) + 3).toNat = 6 * k + 3 by omega]) ?_
                                      refine x_V4i tg_3 (Nat.le_of_ble_eq_true rfl) r1 ?_
                                      refine x_aload_n rfl ?_
                                      refine x_aload_n rfl ?_
                                      refine x_iload_n rfl ?_
                                      refine x_iconst ?_
                                      refine x_iadd ?_
                                      refine x_ialdv (Or.inr tg_0) (if_pos rfl) (by omega) (show _ = xs (6 * k + 1) by rw [e1, show (((6 * k : Nat) : Int) + 1).toNat = 6 * k + 1 by omega]) ?_
                                      refine x_aload_n rfl ?_
                                      refine x_iload_n rfl ?_
                                      refine x_iconst ?_
                                      refine x_iadd ?_
                                      refine x_ialdv (Or.inr tg_0) (if_pos rfl) (by omega) (show _ = xs (6 * k + 2) by rw [e1, show (((6 * k : Nat) : Int) + 2).toNat = 6 * k + 2 by omega]) ?_
                                      refine x_aload_n rfl ?_
                                      refine x_iload_n rfl ?_
                                      refine x_iconst ?_
                                      refine x_iadd ?_
                                      refine x_ialdv (Or.inr tg_0) (if_pos rfl) (by omega) (show _ = xs (6 * k + 3) by rw [e1, show (((6 * k : Nat) : Int) + 3).toNat = 6 * k + 3 by omega]) ?_
                                      refine x_V4i tg_301 (Nat.le_of_ble_eq_true rfl) r2 ?_
                                      exact rfl
                                    exact t_ic_eq_t ⟨hv, hv, rfl⟩
                                  · decide
                                · decide
                              · decide
                            · decide
                          · decide
                        · decide
                      · decide
                    · decide
                  · decide
                · decide
              · decide
            · decide
          · decide
        · decide
      · decide
    · decide
  unfold pL_law_1041
  apply t_B
  · refine x_iinc rfl rfl ?_
    exact rfl
  exact t_goeq (s3 (by rw [show ((6 * k : Nat) : Int) + 6 = ((6 * (k + 1) : Nat) : Int) by omega]; rfl) rfl)
set_option maxRecDepth 10000 in
theorem l_rate {L k : Nat} {xs : Nat → Int} (hL : L ≤ 3072) (hx : ∀ j, inR (xs j)) (hk : 6 * k + 6 ≤ L) {I : Nat → Nat → Int} {R : Nat → Nat → Option Nat} {u : Int64} {σ : Sg} (hs : Sok k σ) (hC : CI σ I R) (hR : RI σ I) (h0 : I 0 = xs) (hc : xs (6 * k) % 32 = 10) : ∃ I2 R2 u2 σ', am_ev (am_run am_tb 60) wL_law_18 ([vR 0, vR 3, vR 301, vI (6 * k : Nat)], [], LH L I R u) = some (18 + 2, [vR 0, vR 3, vR 301, vI (6 * (k + 1) : Nat)], [], LH L I2 R2 u2) ∧ Sok (k + 1) σ' ∧ CI σ' I2 R2 ∧ RI σ' I2 ∧ I2 0 = xs := by
  obtain ⟨v, σ', I1, R1, I2, u2, r1, r2, hv, s1, s2, s3', e1, e2⟩ := z_rate (L := L) (v0 := u) hs (by omega) hC hR (hx (6 * k + 1)) (hx (6 * k + 2))
  rw [h0] at e1
  refine ⟨I2, R1, u2, σ', ?_, s1, s2, s3', e2.trans h0⟩
  unfold wL_law_18
  apply t_Q
  · unfold pL_law_18
    apply t_B
    · refine x_iload_n rfl ?_
      refine x_aload_n rfl ?_
      refine x_alen (Or.inr tg_0) ?_
      rw [show ln L 0 = L from if_pos rfl]
      refine x_bipush ?_
      refine x_isub ?_
      exact rfl
    exact t_ic_gt_f (by omega)
  apply t_Q
  · unfold pL_law_27
    apply t_S
    refine x_aload_n rfl ?_
    refine x_iload_n rfl ?_
    refine x_ialdv (Or.inr tg_0) (if_pos rfl) (by omega) (show _ = xs (6 * k) by rw [h0, Int.toNat_natCast]) ?_
    refine x_bipush ?_
    refine x_iand (by have := hx (6 * k); omega) ?_
    rw [show xs (6 * k) % (31 + 1) = xs (6 * k) % 32 from rfl, hc]
    exact rfl
  apply t_Q
  · apply t_K
    apply t_Qs
    apply t_Ks
    · apply t_Qs
      apply t_Ks
      · apply t_Qs
        apply t_Ks
        · apply t_Qs
          apply t_Ks
          · apply t_Qs
            apply t_Ks
            · apply t_Qs
              apply t_Ks
              · apply t_Qs
                apply t_Ks
                · apply t_Qs
                  apply t_Ks
                  · apply t_Qs
                    apply t_Ks
                    · apply t_Qs
                      apply t_Ks
                      · apply t_Qs
                        apply t_Ks
                        · apply t_Qs
                          apply t_Ks
                          · apply t_Qs
                            apply t_Ks
                            · apply t_Qs
                              apply t_Ks
                              · apply t_Qs
                                apply t_Ks
                                · apply t_Q
                                  · apply t_K
                                    apply t_Qs
                                    apply t_Ks
                                    · apply t_Qs
                                      apply t_Ks
                                      · apply t_Qs
                                        apply t_Ks
                                        · apply t_Qs
                                          apply t_Ks
                                          · apply t_Qs
                                            apply t_Ks
                                            · apply t_Qs
                                              apply t_Ks
                                              · apply t_Qs
                                                apply t_Ks
                                                · apply t_Qs
                                                  apply t_Ks
                                                  · apply t_Qs
                                                    apply t_Ks
                                                    · apply t_Qs
                                                      apply t_Ks
                                                      · unfold pL_law_33
                                                        apply t_B
                                                        · exact rfl
                                                        exact t_swi (by omega) rfl
                                                      · decide
                                                    · decide
                                                  · decide
                                                · decide
                                              · decide
                                            · decide
                                          · decide
                                        · decide
                                      · decide
                                    · decide
                                  apply t_Qs
                                  unfold pL_law_572
                                  apply t_B
                                  · refine x_aload_n rfl ?_
                                    refine x_aload_n rfl ?_
                                    refine x_iload_n rfl ?_
                                    refine x_iconst ?_
                                    refine x_iadd ?_
                                    refine x_ialdv (Or.inr tg_0) (if_pos rfl) (by omega) (show _ = xs (6 * k + 1) by rw [h0, show (((6 * k : Nat) : Int) + 1).toNat = 6 * k + 1 by omega]) ?_
                                    refine x_aload_n rfl ?_
                                    refine x_iload_n rfl ?_
                                    refine x_iconst ?_
                                    refine x_iadd ?_
                                    refine x_ialdv (Or.inr tg_0) (if_pos rfl) (by omega) (show _ = xs (6 * k + 2) by rw [h0, show (((6 * k : Nat) : Int) + 2).toNat = 6 * k + 2 by omega]) ?_
                                    refine x_V3i tg_3 (Nat.le_of_ble_eq_true rfl) r1 ?_
                                    refine x_aload_n rfl ?_
                                    refine x_aload_n rfl ?_
                                    refine x_iload_n rfl ?_
                                    refine x_iconst ?_
                                    refine x_iadd ?_
                                    refine x_ialdv (Or.inr tg_0) (if_pos rfl) (by omega) (show _ = xs (6 * k + 1) by rw [e1, show (((6 * k : Nat) : Int) + 1).toNat = 6 * k + 1 by omega]) ?_
                                    refine x_aload_n rfl ?_
                                    refine x_iload_n rfl ?_
                                    refine x_iconst ?_
                                    refine x_iadd ?_
                                    refine x_ialdv (Or.inr tg_0) (if_pos rfl) (by omega) (show _ = xs (6 * k + 2) by rw [e1, show (((6 * k : Nat) : Int) + 2).toNat = 6 * k + 2 by omega]) ?_
                                    refine x_V3i tg_301 (Nat.le_of_ble_eq_true rfl) r2 ?_
                                    exact rfl
                                  exact t_ic_eq_t ⟨hv, hv, rfl⟩
                                · decide
                              · decide
                            · decide
                          · decide
                        · decide
                      · decide
                    · decide
                  · decide
                · decide
              · decide
            · decide
          · decide
        · decide
      · decide
    · decide
  unfold pL_law_1041
  apply t_B
  · refine x_iinc rfl rfl ?_
    exact rfl
  exact t_goeq (s3 (by rw [show ((6 * k : Nat) : Int) + 6 = ((6 * (k + 1) : Nat) : Int) by omega]; rfl) rfl)
set_option maxRecDepth 10000 in
theorem l_makes {L k : Nat} {xs : Nat → Int} (hL : L ≤ 3072) (hx : ∀ j, inR (xs j)) (hk : 6 * k + 6 ≤ L) {I : Nat → Nat → Int} {R : Nat → Nat → Option Nat} {u : Int64} {σ : Sg} (hs : Sok k σ) (hC : CI σ I R) (hR : RI σ I) (h0 : I 0 = xs) (hc : xs (6 * k) % 32 = 11) : ∃ I2 R2 u2 σ', am_ev (am_run am_tb 60) wL_law_18 ([vR 0, vR 3, vR 301, vI (6 * k : Nat)], [], LH L I R u) = some (18 + 2, [vR 0, vR 3, vR 301, vI (6 * (k + 1) : Nat)], [], LH L I2 R2 u2) ∧ Sok (k + 1) σ' ∧ CI σ' I2 R2 ∧ RI σ' I2 ∧ I2 0 = xs := by
  obtain ⟨v, σ', I1, R1, I2, u2, r1, r2, hv, s1, s2, s3', e1, e2⟩ := z_makes (L := L) (v0 := u) hs (by omega) hC hR (hx (6 * k + 1)) (hx (6 * k + 2)) (hx (6 * k + 3))
  rw [h0] at e1
  refine ⟨I2, R1, u2, σ', ?_, s1, s2, s3', e2.trans h0⟩
  unfold wL_law_18
  apply t_Q
  · unfold pL_law_18
    apply t_B
    · refine x_iload_n rfl ?_
      refine x_aload_n rfl ?_
      refine x_alen (Or.inr tg_0) ?_
      rw [show ln L 0 = L from if_pos rfl]
      refine x_bipush ?_
      refine x_isub ?_
      exact rfl
    exact t_ic_gt_f (by omega)
  apply t_Q
  · unfold pL_law_27
    apply t_S
    refine x_aload_n rfl ?_
    refine x_iload_n rfl ?_
    refine x_ialdv (Or.inr tg_0) (if_pos rfl) (by omega) (show _ = xs (6 * k) by rw [h0, Int.toNat_natCast]) ?_
    refine x_bipush ?_
    refine x_iand (by have := hx (6 * k); omega) ?_
    rw [show xs (6 * k) % (31 + 1) = xs (6 * k) % 32 from rfl, hc]
    exact rfl
  apply t_Q
  · apply t_K
    apply t_Qs
    apply t_Ks
    · apply t_Qs
      apply t_Ks
      · apply t_Qs
        apply t_Ks
        · apply t_Qs
          apply t_Ks
          · apply t_Qs
            apply t_Ks
            · apply t_Qs
              apply t_Ks
              · apply t_Qs
                apply t_Ks
                · apply t_Qs
                  apply t_Ks
                  · apply t_Qs
                    apply t_Ks
                    · apply t_Qs
                      apply t_Ks
                      · apply t_Qs
                        apply t_Ks
                        · apply t_Qs
                          apply t_Ks
                          · apply t_Qs
                            apply t_Ks
                            · apply t_Qs
                              apply t_Ks
                              · apply t_Q
                                · apply t_K
                                  apply t_Qs
                                  apply t_Ks
                                  · apply t_Qs
                                    apply t_Ks
                                    · apply t_Qs
                                      apply t_Ks
                                      · apply t_Qs
                                        apply t_Ks
                                        · apply t_Qs
                                          apply t_Ks
                                          · apply t_Qs
                                            apply t_Ks
                                            · apply t_Qs
                                              apply t_Ks
                                              · apply t_Qs
                                                apply t_Ks
                                                · apply t_Qs
                                                  apply t_Ks
                                                  · apply t_Qs
                                                    apply t_Ks
                                                    · apply t_Qs
                                                      apply t_Ks
                                                      · unfold pL_law_33
                                                        apply t_B
                                                        · exact rfl
                                                        exact t_swi (by omega) rfl
                                                      · decide
                                                    · decide
                                                  · decide
                                                · decide
                                              · decide
                                            · decide
                                          · decide
                                        · decide
                                      · decide
                                    · decide
                                  · decide
                                apply t_Qs
                                unfold pL_law_605
                                apply t_B
                                · refine x_aload_n rfl ?_
                                  refine x_aload_n rfl ?_
                                  refine x_iload_n rfl ?_
                                  refine x_iconst ?_
                                  refine x_iadd ?_
                                  refine x_ialdv (Or.inr tg_0) (if_pos rfl) (by omega) (show _ = xs (6 * k + 1) by rw [h0, show (((6 * k : Nat) : Int) + 1).toNat = 6 * k + 1 by omega]) ?_
                                  refine x_aload_n rfl ?_
                                  refine x_iload_n rfl ?_
                                  refine x_iconst ?_
                                  refine x_iadd ?_
                                  refine x_ialdv (Or.inr tg_0) (if_pos rfl) (by omega) (show _ = xs (6 * k + 2) by rw [h0, show (((6 * k : Nat) : Int) + 2).toNat = 6 * k + 2 by omega]) ?_
                                  refine x_aload_n rfl ?_
                                  refine x_iload_n rfl ?_
                                  refine x_iconst ?_
                                  refine x_iadd ?_
                                  refine x_ialdv (Or.inr tg_0) (if_pos rfl) (by omega) (show _ = xs (6 * k + 3) by rw [h0, show (((6 * k : Nat) : Int) + 3).toNat = 6 * k + 3 by omega]) ?_
                                  refine x_V4i tg_3 (Nat.le_of_ble_eq_true rfl) r1 ?_
                                  refine x_aload_n rfl ?_
                                  refine x_aload_n rfl ?_
                                  refine x_iload_n rfl ?_
                                  refine x_iconst ?_
                                  refine x_iadd ?_
                                  refine x_ialdv (Or.inr tg_0) (if_pos rfl) (by omega) (show _ = xs (6 * k + 1) by rw [e1, show (((6 * k : Nat) : Int) + 1).toNat = 6 * k + 1 by omega]) ?_
                                  refine x_aload_n rfl ?_
                                  refine x_iload_n rfl ?_
                                  refine x_iconst ?_
                                  refine x_iadd ?_
                                  refine x_ialdv (Or.inr tg_0) (if_pos rfl) (by omega) (show _ = xs (6 * k + 2) by rw [e1, show (((6 * k : Nat) : Int) + 2).toNat = 6 * k + 2 by omega]) ?_
                                  refine x_aload_n rfl ?_
                                  refine x_iload_n rfl ?_
                                  refine x_iconst ?_
                                  refine x_iadd ?_
                                  refine x_ialdv (Or.inr tg_0) (if_pos rfl) (by omega) (show _ = xs (6 * k + 3) by rw [e1, show (((6 * k : Nat) : Int) + 3).toNat = 6 * k + 3 by omega]) ?_
                                  refine x_V4i tg_301 (Nat.le_of_ble_eq_true rfl) r2 ?_
                                  exact rfl
                                exact t_ic_eq_t ⟨hv, hv, rfl⟩
                              · decide
                            · decide
                          · decide
                        · decide
                      · decide
                    · decide
                  · decide
                · decide
              · decide
            · decide
          · decide
        · decide
      · decide
    · decide
  unfold pL_law_1041
  apply t_B
  · refine x_iinc rfl rfl ?_
    exact rfl
  exact t_goeq (s3 (by rw [show ((6 * k : Nat) : Int) + 6 = ((6 * (k + 1) : Nat) : Int) by omega]; rfl) rfl)
set_option maxRecDepth 10000 in
theorem l_kernel {L k : Nat} {xs : Nat → Int} (hL : L ≤ 3072) (hx : ∀ j, inR (xs j)) (hk : 6 * k + 6 ≤ L) {I : Nat → Nat → Int} {R : Nat → Nat → Option Nat} {u : Int64} {σ : Sg} (hs : Sok k σ) (hC : CI σ I R) (hR : RI σ I) (h0 : I 0 = xs) (hc : xs (6 * k) % 32 = 12) : ∃ I2 R2 u2 σ', am_ev (am_run am_tb 60) wL_law_18 ([vR 0, vR 3, vR 301, vI (6 * k : Nat)], [], LH L I R u) = some (18 + 2, [vR 0, vR 3, vR 301, vI (6 * (k + 1) : Nat)], [], LH L I2 R2 u2) ∧ Sok (k + 1) σ' ∧ CI σ' I2 R2 ∧ RI σ' I2 ∧ I2 0 = xs := by
  obtain ⟨v, σ', I1, R1, I2, u2, r1, r2, hv, s1, s2, s3', e1, e2⟩ := z_kernel (L := L) (v0 := u) hs (by omega) hC hR (hx (6 * k + 1)) (hx (6 * k + 2))
  rw [h0] at e1
  refine ⟨I2, R1, u2, σ', ?_, s1, s2, s3', e2.trans h0⟩
  unfold wL_law_18
  apply t_Q
  · unfold pL_law_18
    apply t_B
    · refine x_iload_n rfl ?_
      refine x_aload_n rfl ?_
      refine x_alen (Or.inr tg_0) ?_
      rw [show ln L 0 = L from if_pos rfl]
      refine x_bipush ?_
      refine x_isub ?_
      exact rfl
    exact t_ic_gt_f (by omega)
  apply t_Q
  · unfold pL_law_27
    apply t_S
    refine x_aload_n rfl ?_
    refine x_iload_n rfl ?_
    refine x_ialdv (Or.inr tg_0) (if_pos rfl) (by omega) (show _ = xs (6 * k) by rw [h0, Int.toNat_natCast]) ?_
    refine x_bipush ?_
    refine x_iand (by have := hx (6 * k); omega) ?_
    rw [show xs (6 * k) % (31 + 1) = xs (6 * k) % 32 from rfl, hc]
    exact rfl
  apply t_Q
  · apply t_K
    apply t_Qs
    apply t_Ks
    · apply t_Qs
      apply t_Ks
      · apply t_Qs
        apply t_Ks
        · apply t_Qs
          apply t_Ks
          · apply t_Qs
            apply t_Ks
            · apply t_Qs
              apply t_Ks
              · apply t_Qs
                apply t_Ks
                · apply t_Qs
                  apply t_Ks
                  · apply t_Qs
                    apply t_Ks
                    · apply t_Qs
                      apply t_Ks
                      · apply t_Qs
                        apply t_Ks
                        · apply t_Qs
                          apply t_Ks
                          · apply t_Qs
                            apply t_Ks
                            · apply t_Q
                              · apply t_K
                                apply t_Qs
                                apply t_Ks
                                · apply t_Qs
                                  apply t_Ks
                                  · apply t_Qs
                                    apply t_Ks
                                    · apply t_Qs
                                      apply t_Ks
                                      · apply t_Qs
                                        apply t_Ks
                                        · apply t_Qs
                                          apply t_Ks
                                          · apply t_Qs
                                            apply t_Ks
                                            · apply t_Qs
                                              apply t_Ks
                                              · apply t_Qs
                                                apply t_Ks
                                                · apply t_Qs
                                                  apply t_Ks
                                                  · apply t_Qs
                                                    apply t_Ks
                                                    · apply t_Qs
                                                      apply t_Ks
                                                      · unfold pL_law_33
                                                        apply t_B
                                                        · exact rfl
                                                        exact t_swi (by omega) rfl
                                                      · decide
                                                    · decide
                                                  · decide
                                                · decide
                                              · decide
                                            · decide
                                          · decide
                                        · decide
                                      · decide
                                    · decide
                                  · decide
                                · decide
                              apply t_Qs
                              unfold pL_law_648
                              apply t_B
                              · refine x_aload_n rfl ?_
                                refine x_aload_n rfl ?_
                                refine x_iload_n rfl ?_
                                refine x_iconst ?_
                                refine x_iadd ?_
                                refine x_ialdv (Or.inr tg_0) (if_pos rfl) (by omega) (show _ = xs (6 * k + 1) by rw [h0, show (((6 * k : Nat) : Int) + 1).toNat = 6 * k + 1 by omega]) ?_
                                refine x_aload_n rfl ?_
                                refine x_iload_n rfl ?_
                                refine x_iconst ?_
                                refine x_iadd ?_
                                refine x_ialdv (Or.inr tg_0) (if_pos rfl) (by omega) (show _ = xs (6 * k + 2) by rw [h0, show (((6 * k : Nat) : Int) + 2).toNat = 6 * k + 2 by omega]) ?_
                                refine x_V3i tg_3 (Nat.le_of_ble_eq_true rfl) r1 ?_
                                refine x_aload_n rfl ?_
                                refine x_aload_n rfl ?_
                                refine x_iload_n rfl ?_
                                refine x_iconst ?_
                                refine x_iadd ?_
                                refine x_ialdv (Or.inr tg_0) (if_pos rfl) (by omega) (show _ = xs (6 * k + 1) by rw [e1, show (((6 * k : Nat) : Int) + 1).toNat = 6 * k + 1 by omega]) ?_
                                refine x_aload_n rfl ?_
                                refine x_iload_n rfl ?_
                                refine x_iconst ?_
                                refine x_iadd ?_
                                refine x_ialdv (Or.inr tg_0) (if_pos rfl) (by omega) (show _ = xs (6 * k + 2) by rw [e1, show (((6 * k : Nat) : Int) + 2).toNat = 6 * k + 2 by omega]) ?_
                                refine x_V3i tg_301 (Nat.le_of_ble_eq_true rfl) r2 ?_
                                exact rfl
                              exact t_ic_eq_t ⟨hv, hv, rfl⟩
                            · decide
                          · decide
                        · decide
                      · decide
                    · decide
                  · decide
                · decide
              · decide
            · decide
          · decide
        · decide
      · decide
    · decide
  unfold pL_law_1041
  apply t_B
  · refine x_iinc rfl rfl ?_
    exact rfl
  exact t_goeq (s3 (by rw [show ((6 * k : Nat) : Int) + 6 = ((6 * (k + 1) : Nat) : Int) by omega]; rfl) rfl)
set_option maxRecDepth 10000 in
theorem l_kills {L k : Nat} {xs : Nat → Int} (hL : L ≤ 3072) (hx : ∀ j, inR (xs j)) (hk : 6 * k + 6 ≤ L) {I : Nat → Nat → Int} {R : Nat → Nat → Option Nat} {u : Int64} {σ : Sg} (hs : Sok k σ) (hC : CI σ I R) (hR : RI σ I) (h0 : I 0 = xs) (hc : xs (6 * k) % 32 = 13) : ∃ I2 R2 u2 σ', am_ev (am_run am_tb 60) wL_law_18 ([vR 0, vR 3, vR 301, vI (6 * k : Nat)], [], LH L I R u) = some (18 + 2, [vR 0, vR 3, vR 301, vI (6 * (k + 1) : Nat)], [], LH L I2 R2 u2) ∧ Sok (k + 1) σ' ∧ CI σ' I2 R2 ∧ RI σ' I2 ∧ I2 0 = xs := by
  obtain ⟨v, σ', I1, R1, I2, u2, r1, r2, hv, s1, s2, s3', e1, e2⟩ := z_kills (L := L) (v0 := u) hs (by omega) hC hR (hx (6 * k + 1)) (hx (6 * k + 2))
  rw [h0] at e1
  refine ⟨I2, R1, u2, σ', ?_, s1, s2, s3', e2.trans h0⟩
  unfold wL_law_18
  apply t_Q
  · unfold pL_law_18
    apply t_B
    · refine x_iload_n rfl ?_
      refine x_aload_n rfl ?_
      refine x_alen (Or.inr tg_0) ?_
      rw [show ln L 0 = L from if_pos rfl]
      refine x_bipush ?_
      refine x_isub ?_
      exact rfl
    exact t_ic_gt_f (by omega)
  apply t_Q
  · unfold pL_law_27
    apply t_S
    refine x_aload_n rfl ?_
    refine x_iload_n rfl ?_
    refine x_ialdv (Or.inr tg_0) (if_pos rfl) (by omega) (show _ = xs (6 * k) by rw [h0, Int.toNat_natCast]) ?_
    refine x_bipush ?_
    refine x_iand (by have := hx (6 * k); omega) ?_
    rw [show xs (6 * k) % (31 + 1) = xs (6 * k) % 32 from rfl, hc]
    exact rfl
  apply t_Q
  · apply t_K
    apply t_Qs
    apply t_Ks
    · apply t_Qs
      apply t_Ks
      · apply t_Qs
        apply t_Ks
        · apply t_Qs
          apply t_Ks
          · apply t_Qs
            apply t_Ks
            · apply t_Qs
              apply t_Ks
              · apply t_Qs
                apply t_Ks
                · apply t_Qs
                  apply t_Ks
                  · apply t_Qs
                    apply t_Ks
                    · apply t_Qs
                      apply t_Ks
                      · apply t_Qs
                        apply t_Ks
                        · apply t_Qs
                          apply t_Ks
                          · apply t_Q
                            · apply t_K
                              apply t_Qs
                              apply t_Ks
                              · apply t_Qs
                                apply t_Ks
                                · apply t_Qs
                                  apply t_Ks
                                  · apply t_Qs
                                    apply t_Ks
                                    · apply t_Qs
                                      apply t_Ks
                                      · apply t_Qs
                                        apply t_Ks
                                        · apply t_Qs
                                          apply t_Ks
                                          · apply t_Qs
                                            apply t_Ks
                                            · apply t_Qs
                                              apply t_Ks
                                              · apply t_Qs
                                                apply t_Ks
                                                · apply t_Qs
                                                  apply t_Ks
                                                  · apply t_Qs
                                                    apply t_Ks
                                                    · apply t_Qs
                                                      apply t_Ks
                                                      · unfold pL_law_33
                                                        apply t_B
                                                        · exact rfl
                                                        exact t_swi (by omega) rfl
                                                      · decide
                                                    · decide
                                                  · decide
                                                · decide
                                              · decide
                                            · decide
                                          · decide
                                        · decide
                                      · decide
                                    · decide
                                  · decide
                                · decide
                              · decide
                            apply t_Qs
                            unfold pL_law_681
                            apply t_B
                            · refine x_aload_n rfl ?_
                              refine x_aload_n rfl ?_
                              refine x_iload_n rfl ?_
                              refine x_iconst ?_
                              refine x_iadd ?_
                              refine x_ialdv (Or.inr tg_0) (if_pos rfl) (by omega) (show _ = xs (6 * k + 1) by rw [h0, show (((6 * k : Nat) : Int) + 1).toNat = 6 * k + 1 by omega]) ?_
                              refine x_aload_n rfl ?_
                              refine x_iload_n rfl ?_
                              refine x_iconst ?_
                              refine x_iadd ?_
                              refine x_ialdv (Or.inr tg_0) (if_pos rfl) (by omega) (show _ = xs (6 * k + 2) by rw [h0, show (((6 * k : Nat) : Int) + 2).toNat = 6 * k + 2 by omega]) ?_
                              refine x_V3i tg_3 (Nat.le_of_ble_eq_true rfl) r1 ?_
                              refine x_aload_n rfl ?_
                              refine x_aload_n rfl ?_
                              refine x_iload_n rfl ?_
                              refine x_iconst ?_
                              refine x_iadd ?_
                              refine x_ialdv (Or.inr tg_0) (if_pos rfl) (by omega) (show _ = xs (6 * k + 1) by rw [e1, show (((6 * k : Nat) : Int) + 1).toNat = 6 * k + 1 by omega]) ?_
                              refine x_aload_n rfl ?_
                              refine x_iload_n rfl ?_
                              refine x_iconst ?_
                              refine x_iadd ?_
                              refine x_ialdv (Or.inr tg_0) (if_pos rfl) (by omega) (show _ = xs (6 * k + 2) by rw [e1, show (((6 * k : Nat) : Int) + 2).toNat = 6 * k + 2 by omega]) ?_
                              refine x_V3i tg_301 (Nat.le_of_ble_eq_true rfl) r2 ?_
                              exact rfl
                            exact t_ic_eq_t ⟨hv, hv, rfl⟩
                          · decide
                        · decide
                      · decide
                    · decide
                  · decide
                · decide
              · decide
            · decide
          · decide
        · decide
      · decide
    · decide
  unfold pL_law_1041
  apply t_B
  · refine x_iinc rfl rfl ?_
    exact rfl
  exact t_goeq (s3 (by rw [show ((6 * k : Nat) : Int) + 6 = ((6 * (k + 1) : Nat) : Int) by omega]; rfl) rfl)
set_option maxRecDepth 10000 in
theorem l_rest {L k : Nat} {xs : Nat → Int} (hL : L ≤ 3072) (hx : ∀ j, inR (xs j)) (hk : 6 * k + 6 ≤ L) {I : Nat → Nat → Int} {R : Nat → Nat → Option Nat} {u : Int64} {σ : Sg} (hs : Sok k σ) (hC : CI σ I R) (hR : RI σ I) (h0 : I 0 = xs) (hc : xs (6 * k) % 32 = 14) : ∃ I2 R2 u2 σ', am_ev (am_run am_tb 60) wL_law_18 ([vR 0, vR 3, vR 301, vI (6 * k : Nat)], [], LH L I R u) = some (18 + 2, [vR 0, vR 3, vR 301, vI (6 * (k + 1) : Nat)], [], LH L I2 R2 u2) ∧ Sok (k + 1) σ' ∧ CI σ' I2 R2 ∧ RI σ' I2 ∧ I2 0 = xs := by
  obtain ⟨v, σ', I1, R1, I2, u2, r1, r2, hv, s1, s2, s3', e1, e2⟩ := z_rest (L := L) (v0 := u) hs (by omega) hC hR (hx (6 * k + 1)) (hx (6 * k + 2)) (hx (6 * k + 3))
  rw [h0] at e1
  refine ⟨I2, R1, u2, σ', ?_, s1, s2, s3', e2.trans h0⟩
  unfold wL_law_18
  apply t_Q
  · unfold pL_law_18
    apply t_B
    · refine x_iload_n rfl ?_
      refine x_aload_n rfl ?_
      refine x_alen (Or.inr tg_0) ?_
      rw [show ln L 0 = L from if_pos rfl]
      refine x_bipush ?_
      refine x_isub ?_
      exact rfl
    exact t_ic_gt_f (by omega)
  apply t_Q
  · unfold pL_law_27
    apply t_S
    refine x_aload_n rfl ?_
    refine x_iload_n rfl ?_
    refine x_ialdv (Or.inr tg_0) (if_pos rfl) (by omega) (show _ = xs (6 * k) by rw [h0, Int.toNat_natCast]) ?_
    refine x_bipush ?_
    refine x_iand (by have := hx (6 * k); omega) ?_
    rw [show xs (6 * k) % (31 + 1) = xs (6 * k) % 32 from rfl, hc]
    exact rfl
  apply t_Q
  · apply t_K
    apply t_Qs
    apply t_Ks
    · apply t_Qs
      apply t_Ks
      · apply t_Qs
        apply t_Ks
        · apply t_Qs
          apply t_Ks
          · apply t_Qs
            apply t_Ks
            · apply t_Qs
              apply t_Ks
              · apply t_Qs
                apply t_Ks
                · apply t_Qs
                  apply t_Ks
                  · apply t_Qs
                    apply t_Ks
                    · apply t_Qs
                      apply t_Ks
                      · apply t_Qs
                        apply t_Ks
                        · apply t_Q
                          · apply t_K
                            apply t_Qs
                            apply t_Ks
                            · apply t_Qs
                              apply t_Ks
                              · apply t_Qs
                                apply t_Ks
                                · apply t_Qs
                                  apply t_Ks
                                  · apply t_Qs
                                    apply t_Ks
                                    · apply t_Qs
                                      apply t_Ks
                                      · apply t_Qs
                                        apply t_Ks
                                        · apply t_Qs
                                          apply t_Ks
                                          · apply t_Qs
                                            apply t_Ks
                                            · apply t_Qs
                                              apply t_Ks
                                              · apply t_Qs
                                                apply t_Ks
                                                · apply t_Qs
                                                  apply t_Ks
                                                  · apply t_Qs
                                                    apply t_Ks
                                                    · apply t_Qs
                                                      apply t_Ks
                                                      · unfold pL_law_33
                                                        apply t_B
                                                        · exact rfl
                                                        exact t_swi (by omega) rfl
                                                      · decide
                                                    · decide
                                                  · decide
                                                · decide
                                              · decide
                                            · decide
                                          · decide
                                        · decide
                                      · decide
                                    · decide
                                  · decide
                                · decide
                              · decide
                            · decide
                          apply t_Qs
                          unfold pL_law_714
                          apply t_B
                          · refine x_aload_n rfl ?_
                            refine x_aload_n rfl ?_
                            refine x_iload_n rfl ?_
                            refine x_iconst ?_
                            refine x_iadd ?_
                            refine x_ialdv (Or.inr tg_0) (if_pos rfl) (by omega) (show _ = xs (6 * k + 1) by rw [h0, show (((6 * k : Nat) : Int) + 1).toNat = 6 * k + 1 by omega]) ?_
                            refine x_aload_n rfl ?_
                            refine x_iload_n rfl ?_
                            refine x_iconst ?_
                            refine x_iadd ?_
                            refine x_ialdv (Or.inr tg_0) (if_pos rfl) (by omega) (show _ = xs (6 * k + 2) by rw [h0, show (((6 * k : Nat) : Int) + 2).toNat = 6 * k + 2 by omega]) ?_
                            refine x_aload_n rfl ?_
                            refine x_iload_n rfl ?_
                            refine x_iconst ?_
                            refine x_iadd ?_
                            refine x_ialdv (Or.inr tg_0) (if_pos rfl) (by omega) (show _ = xs (6 * k + 3) by rw [h0, show (((6 * k : Nat) : Int) + 3).toNat = 6 * k + 3 by omega]) ?_
                            refine x_V4i tg_3 (Nat.le_of_ble_eq_true rfl) r1 ?_
                            refine x_aload_n rfl ?_
                            refine x_aload_n rfl ?_
                            refine x_iload_n rfl ?_
                            refine x_iconst ?_
                            refine x_iadd ?_
                            refine x_ialdv (Or.inr tg_0) (if_pos rfl) (by omega) (show _ = xs (6 * k + 1) by rw [e1, show (((6 * k : Nat) : Int) + 1).toNat = 6 * k + 1 by omega]) ?_
                            refine x_aload_n rfl ?_
                            refine x_iload_n rfl ?_
                            refine x_iconst ?_
                            refine x_iadd ?_
                            refine x_ialdv (Or.inr tg_0) (if_pos rfl) (by omega) (show _ = xs (6 * k + 2) by rw [e1, show (((6 * k : Nat) : Int) + 2).toNat = 6 * k + 2 by omega]) ?_
                            refine x_aload_n rfl ?_
                            refine x_iload_n rfl ?_
                            refine x_iconst ?_
                            refine x_iadd ?_
                            refine x_ialdv (Or.inr tg_0) (if_pos rfl) (by omega) (show _ = xs (6 * k + 3) by rw [e1, show (((6 * k : Nat) : Int) + 3).toNat = 6 * k + 3 by omega]) ?_
                            refine x_V4i tg_301 (Nat.le_of_ble_eq_true rfl) r2 ?_
                            exact rfl
                          exact t_ic_eq_t ⟨hv, hv, rfl⟩
                        · decide
                      · decide
                    · decide
                  · decide
                · decide
              · decide
            · decide
          · decide
        · decide
      · decide
    · decide
  unfold pL_law_1041
  apply t_B
  · refine x_iinc rfl rfl ?_
    exact rfl
  exact t_goeq (s3 (by rw [show ((6 * k : Nat) : Int) + 6 = ((6 * (k + 1) : Nat) : Int) by omega]; rfl) rfl)
set_option maxRecDepth 10000 in
theorem l_basis {L k : Nat} {xs : Nat → Int} (hL : L ≤ 3072) (hx : ∀ j, inR (xs j)) (hk : 6 * k + 6 ≤ L) {I : Nat → Nat → Int} {R : Nat → Nat → Option Nat} {u : Int64} {σ : Sg} (hs : Sok k σ) (hC : CI σ I R) (hR : RI σ I) (h0 : I 0 = xs) (hc : xs (6 * k) % 32 = 15) : ∃ I2 R2 u2 σ', am_ev (am_run am_tb 60) wL_law_18 ([vR 0, vR 3, vR 301, vI (6 * k : Nat)], [], LH L I R u) = some (18 + 2, [vR 0, vR 3, vR 301, vI (6 * (k + 1) : Nat)], [], LH L I2 R2 u2) ∧ Sok (k + 1) σ' ∧ CI σ' I2 R2 ∧ RI σ' I2 ∧ I2 0 = xs := by
  obtain ⟨v, σ', I1, R1, I2, u2, r1, r2, hv, s1, s2, s3', e1, e2⟩ := z_basis (L := L) (v0 := u) hs (by omega) hC hR (hx (6 * k + 1))
  rw [h0] at e1
  refine ⟨I2, R1, u2, σ', ?_, s1, s2, s3', e2.trans h0⟩
  unfold wL_law_18
  apply t_Q
  · unfold pL_law_18
    apply t_B
    · refine x_iload_n rfl ?_
      refine x_aload_n rfl ?_
      refine x_alen (Or.inr tg_0) ?_
      rw [show ln L 0 = L from if_pos rfl]
      refine x_bipush ?_
      refine x_isub ?_
      exact rfl
    exact t_ic_gt_f (by omega)
  apply t_Q
  · unfold pL_law_27
    apply t_S
    refine x_aload_n rfl ?_
    refine x_iload_n rfl ?_
    refine x_ialdv (Or.inr tg_0) (if_pos rfl) (by omega) (show _ = xs (6 * k) by rw [h0, Int.toNat_natCast]) ?_
    refine x_bipush ?_
    refine x_iand (by have := hx (6 * k); omega) ?_
    rw [show xs (6 * k) % (31 + 1) = xs (6 * k) % 32 from rfl, hc]
    exact rfl
  apply t_Q
  · apply t_K
    apply t_Qs
    apply t_Ks
    · apply t_Qs
      apply t_Ks
      · apply t_Qs
        apply t_Ks
        · apply t_Qs
          apply t_Ks
          · apply t_Qs
            apply t_Ks
            · apply t_Qs
              apply t_Ks
              · apply t_Qs
                apply t_Ks
                · apply t_Qs
                  apply t_Ks
                  · apply t_Qs
                    apply t_Ks
                    · apply t_Qs
                      apply t_Ks
                      · apply t_Q
                        · apply t_K
                          apply t_Qs
                          apply t_Ks
                          · apply t_Qs
                            apply t_Ks
                            · apply t_Qs
                              apply t_Ks
                              · apply t_Qs
                                apply t_Ks
                                · apply t_Qs
                                  apply t_Ks
                                  · apply t_Qs
                                    apply t_Ks
                                    · apply t_Qs
                                      apply t_Ks
                                      · apply t_Qs
                                        apply t_Ks
                                        · apply t_Qs
                                          apply t_Ks
                                          · apply t_Qs
                                            apply t_Ks
                                            · apply t_Qs
                                              apply t_Ks
                                              · apply t_Qs
                                                apply t_Ks
                                                · apply t_Qs
                                                  apply t_Ks
                                                  · apply t_Qs
                                                    apply t_Ks
                                                    · apply t_Qs
                                                      apply t_Ks
                                                      · unfold pL_law_33
                                                        apply t_B
                                                        · exact rfl
                                                        exact t_swi (by omega) rfl
                                                      · decide
                                                    · decide
                                                  · decide
                                                · decide
                                              · decide
                                            · decide
                                          · decide
                                        · decide
                                      · decide
                                    · decide
                                  · decide
                                · decide
                              · decide
                            · decide
                          · decide
                        apply t_Qs
                        unfold pL_law_757
                        apply t_B
                        · refine x_aload_n rfl ?_
                          refine x_aload_n rfl ?_
                          refine x_iload_n rfl ?_
                          refine x_iconst ?_
                          refine x_iadd ?_
                          refine x_ialdv (Or.inr tg_0) (if_pos rfl) (by omega) (show _ = xs (6 * k + 1) by rw [h0, show (((6 * k : Nat) : Int) + 1).toNat = 6 * k + 1 by omega]) ?_
                          refine x_V2i tg_3 (Nat.le_of_ble_eq_true rfl) r1 ?_
                          refine x_aload_n rfl ?_
                          refine x_aload_n rfl ?_
                          refine x_iload_n rfl ?_
                          refine x_iconst ?_
                          refine x_iadd ?_
                          refine x_ialdv (Or.inr tg_0) (if_pos rfl) (by omega) (show _ = xs (6 * k + 1) by rw [e1, show (((6 * k : Nat) : Int) + 1).toNat = 6 * k + 1 by omega]) ?_
                          refine x_V2i tg_301 (Nat.le_of_ble_eq_true rfl) r2 ?_
                          exact rfl
                        exact t_ic_eq_t ⟨hv, hv, rfl⟩
                      · decide
                    · decide
                  · decide
                · decide
              · decide
            · decide
          · decide
        · decide
      · decide
    · decide
  unfold pL_law_1041
  apply t_B
  · refine x_iinc rfl rfl ?_
    exact rfl
  exact t_goeq (s3 (by rw [show ((6 * k : Nat) : Int) + 6 = ((6 * (k + 1) : Nat) : Int) by omega]; rfl) rfl)
set_option maxRecDepth 10000 in
theorem l_based {L k : Nat} {xs : Nat → Int} (hL : L ≤ 3072) (hx : ∀ j, inR (xs j)) (hk : 6 * k + 6 ≤ L) {I : Nat → Nat → Int} {R : Nat → Nat → Option Nat} {u : Int64} {σ : Sg} (hs : Sok k σ) (hC : CI σ I R) (hR : RI σ I) (h0 : I 0 = xs) (hc : xs (6 * k) % 32 = 16) : ∃ I2 R2 u2 σ', am_ev (am_run am_tb 60) wL_law_18 ([vR 0, vR 3, vR 301, vI (6 * k : Nat)], [], LH L I R u) = some (18 + 2, [vR 0, vR 3, vR 301, vI (6 * (k + 1) : Nat)], [], LH L I2 R2 u2) ∧ Sok (k + 1) σ' ∧ CI σ' I2 R2 ∧ RI σ' I2 ∧ I2 0 = xs := by
  obtain ⟨v, σ', I1, R1, I2, u2, r1, r2, hv, s1, s2, s3', e1, e2⟩ := z_based (L := L) (v0 := u) hs (by omega) hC hR (hx (6 * k + 1)) (hx (6 * k + 2)) (hx (6 * k + 3)) (hx (6 * k + 4))
  rw [h0] at e1
  refine ⟨I2, R1, u2, σ', ?_, s1, s2, s3', e2.trans h0⟩
  unfold wL_law_18
  apply t_Q
  · unfold pL_law_18
    apply t_B
    · refine x_iload_n rfl ?_
      refine x_aload_n rfl ?_
      refine x_alen (Or.inr tg_0) ?_
      rw [show ln L 0 = L from if_pos rfl]
      refine x_bipush ?_
      refine x_isub ?_
      exact rfl
    exact t_ic_gt_f (by omega)
  apply t_Q
  · unfold pL_law_27
    apply t_S
    refine x_aload_n rfl ?_
    refine x_iload_n rfl ?_
    refine x_ialdv (Or.inr tg_0) (if_pos rfl) (by omega) (show _ = xs (6 * k) by rw [h0, Int.toNat_natCast]) ?_
    refine x_bipush ?_
    refine x_iand (by have := hx (6 * k); omega) ?_
    rw [show xs (6 * k) % (31 + 1) = xs (6 * k) % 32 from rfl, hc]
    exact rfl
  apply t_Q
  · apply t_K
    apply t_Qs
    apply t_Ks
    · apply t_Qs
      apply t_Ks
      · apply t_Qs
        apply t_Ks
        · apply t_Qs
          apply t_Ks
          · apply t_Qs
            apply t_Ks
            · apply t_Qs
              apply t_Ks
              · apply t_Qs
                apply t_Ks
                · apply t_Qs
                  apply t_Ks
                  · apply t_Qs
                    apply t_Ks
                    · apply t_Q
                      · apply t_K
                        apply t_Qs
                        apply t_Ks
                        · apply t_Qs
                          apply t_Ks
                          · apply t_Qs
                            apply t_Ks
                            · apply t_Qs
                              apply t_Ks
                              · apply t_Qs
                                apply t_Ks
                                · apply t_Qs
                                  apply t_Ks
                                  · apply t_Qs
                                    apply t_Ks
                                    · apply t_Qs
                                      apply t_Ks
                                      · apply t_Qs
                                        apply t_Ks
                                        · apply t_Qs
                                          apply t_Ks
                                          · apply t_Qs
                                            apply t_Ks
                                            · apply t_Qs
                                              apply t_Ks
                                              · apply t_Qs
                                                apply t_Ks
                                                · apply t_Qs
                                                  apply t_Ks
                                                  · apply t_Qs
                                                    apply t_Ks
                                                    · apply t_Qs
                                                      apply t_Ks
                                                      · unfold pL_law_33
                                                        apply t_B
                                                        · exact rfl
                                                        exact t_swi (by omega) rfl
                                                      · decide
                                                    · decide
                                                  · decide
                                                · decide
                                              · decide
                                            · decide
                                          · decide
                                        · decide
                                      · decide
                                    · decide
                                  · decide
                                · decide
                              · decide
                            · decide
                          · decide
                        · decide
                      apply t_Qs
                      unfold pL_law_780
                      apply t_B
                      · refine x_aload_n rfl ?_
                        refine x_aload_n rfl ?_
                        refine x_iload_n rfl ?_
                        refine x_iconst ?_
                        refine x_iadd ?_
                        refine x_ialdv (Or.inr tg_0) (if_pos rfl) (by omega) (show _ = xs (6 * k + 1) by rw [h0, show (((6 * k : Nat) : Int) + 1).toNat = 6 * k + 1 by omega]) ?_
                        refine x_aload_n rfl ?_
                        refine x_iload_n rfl ?_
                        refine x_iconst ?_
                        refine x_iadd ?_
                        refine x_ialdv (Or.inr tg_0) (if_pos rfl) (by omega) (show _ = xs (6 * k + 2) by rw [h0, show (((6 * k : Nat) : Int) + 2).toNat = 6 * k + 2 by omega]) ?_
                        refine x_aload_n rfl ?_
                        refine x_iload_n rfl ?_
                        refine x_iconst ?_
                        refine x_iadd ?_
                        refine x_ialdv (Or.inr tg_0) (if_pos rfl) (by omega) (show _ = xs (6 * k + 3) by rw [h0, show (((6 * k : Nat) : Int) + 3).toNat = 6 * k + 3 by omega]) ?_
                        refine x_aload_n rfl ?_
                        refine x_iload_n rfl ?_
                        refine x_iconst ?_
                        refine x_iadd ?_
                        refine x_ialdv (Or.inr tg_0) (if_pos rfl) (by omega) (show _ = xs (6 * k + 4) by rw [h0, show (((6 * k : Nat) : Int) + 4).toNat = 6 * k + 4 by omega]) ?_
                        refine x_V5i tg_3 (Nat.le_of_ble_eq_true rfl) r1 ?_
                        refine x_aload_n rfl ?_
                        refine x_aload_n rfl ?_
                        refine x_iload_n rfl ?_
                        refine x_iconst ?_
                        refine x_iadd ?_
                        refine x_ialdv (Or.inr tg_0) (if_pos rfl) (by omega) (show _ = xs (6 * k + 1) by rw [e1, show (((6 * k : Nat) : Int) + 1).toNat = 6 * k + 1 by omega]) ?_
                        refine x_aload_n rfl ?_
                        refine x_iload_n rfl ?_
                        refine x_iconst ?_
                        refine x_iadd ?_
                        refine x_ialdv (Or.inr tg_0) (if_pos rfl) (by omega) (show _ = xs (6 * k + 2) by rw [e1, show (((6 * k : Nat) : Int) + 2).toNat = 6 * k + 2 by omega]) ?_
                        refine x_aload_n rfl ?_
                        refine x_iload_n rfl ?_
                        refine x_iconst ?_
                        refine x_iadd ?_
                        refine x_ialdv (Or.inr tg_0) (if_pos rfl) (by omega) (show _ = xs (6 * k + 3) by rw [e1, show (((6 * k : Nat) : Int) + 3).toNat = 6 * k + 3 by omega]) ?_
                        refine x_aload_n rfl ?_
                        refine x_iload_n rfl ?_
                        refine x_iconst ?_
                        refine x_iadd ?_
                        refine x_ialdv (Or.inr tg_0) (if_pos rfl) (by omega) (show _ = xs (6 * k + 4) by rw [e1, show (((6 * k : Nat) : Int) + 4).toNat = 6 * k + 4 by omega]) ?_
                        refine x_V5i tg_301 (Nat.le_of_ble_eq_true rfl) r2 ?_
                        exact rfl
                      exact t_ic_eq_t ⟨hv, hv, rfl⟩
                    · decide
                  · decide
                · decide
              · decide
            · decide
          · decide
        · decide
      · decide
    · decide
  unfold pL_law_1041
  apply t_B
  · refine x_iinc rfl rfl ?_
    exact rfl
  exact t_goeq (s3 (by rw [show ((6 * k : Nat) : Int) + 6 = ((6 * (k + 1) : Nat) : Int) by omega]; rfl) rfl)
set_option maxRecDepth 10000 in
theorem l_stairs {L k : Nat} {xs : Nat → Int} (hL : L ≤ 3072) (hx : ∀ j, inR (xs j)) (hk : 6 * k + 6 ≤ L) {I : Nat → Nat → Int} {R : Nat → Nat → Option Nat} {u : Int64} {σ : Sg} (hs : Sok k σ) (hC : CI σ I R) (hR : RI σ I) (h0 : I 0 = xs) (hc : xs (6 * k) % 32 = 17) : ∃ I2 R2 u2 σ', am_ev (am_run am_tb 60) wL_law_18 ([vR 0, vR 3, vR 301, vI (6 * k : Nat)], [], LH L I R u) = some (18 + 2, [vR 0, vR 3, vR 301, vI (6 * (k + 1) : Nat)], [], LH L I2 R2 u2) ∧ Sok (k + 1) σ' ∧ CI σ' I2 R2 ∧ RI σ' I2 ∧ I2 0 = xs := by
  obtain ⟨v, σ', I1, R1, I2, u2, r1, r2, hv, s1, s2, s3', e1, e2⟩ := z_stairs (L := L) (v0 := u) hs (by omega) hC hR (hx (6 * k + 1)) (hx (6 * k + 2))
  rw [h0] at e1
  refine ⟨I2, R1, u2, σ', ?_, s1, s2, s3', e2.trans h0⟩
  unfold wL_law_18
  apply t_Q
  · unfold pL_law_18
    apply t_B
    · refine x_iload_n rfl ?_
      refine x_aload_n rfl ?_
      refine x_alen (Or.inr tg_0) ?_
      rw [show ln L 0 = L from if_pos rfl]
      refine x_bipush ?_
      refine x_isub ?_
      exact rfl
    exact t_ic_gt_f (by omega)
  apply t_Q
  · unfold pL_law_27
    apply t_S
    refine x_aload_n rfl ?_
    refine x_iload_n rfl ?_
    refine x_ialdv (Or.inr tg_0) (if_pos rfl) (by omega) (show _ = xs (6 * k) by rw [h0, Int.toNat_natCast]) ?_
    refine x_bipush ?_
    refine x_iand (by have := hx (6 * k); omega) ?_
    rw [show xs (6 * k) % (31 + 1) = xs (6 * k) % 32 from rfl, hc]
    exact rfl
  apply t_Q
  · apply t_K
    apply t_Qs
    apply t_Ks
    · apply t_Qs
      apply t_Ks
      · apply t_Qs
        apply t_Ks
        · apply t_Qs
          apply t_Ks
          · apply t_Qs
            apply t_Ks
            · apply t_Qs
              apply t_Ks
              · apply t_Qs
                apply t_Ks
                · apply t_Qs
                  apply t_Ks
                  · apply t_Q
                    · apply t_K
                      apply t_Qs
                      apply t_Ks
                      · apply t_Qs
                        apply t_Ks
                        · apply t_Qs
                          apply t_Ks
                          · apply t_Qs
                            apply t_Ks
                            · apply t_Qs
                              apply t_Ks
                              · apply t_Qs
                                apply t_Ks
                                · apply t_Qs
                                  apply t_Ks
                                  · apply t_Qs
                                    apply t_Ks
                                    · apply t_Qs
                                      apply t_Ks
                                      · apply t_Qs
                                        apply t_Ks
                                        · apply t_Qs
                                          apply t_Ks
                                          · apply t_Qs
                                            apply t_Ks
                                            · apply t_Qs
                                              apply t_Ks
                                              · apply t_Qs
                                                apply t_Ks
                                                · apply t_Qs
                                                  apply t_Ks
                                                  · apply t_Qs
                                                    apply t_Ks
                                                    · apply t_Qs
                                                      apply t_Ks
                                                      · unfold pL_law_33
                                                        apply t_B
                                                        · exact rfl
                                                        exact t_swi (by omega) rfl
                                                      · decide
                                                    · decide
                                                  · decide
                                                · decide
                                              · decide
                                            · decide
                                          · decide
                                        · decide
                                      · decide
                                    · decide
                                  · decide
                                · decide
                              · decide
                            · decide
                          · decide
                        · decide
                      · decide
                    apply t_Qs
                    unfold pL_law_833
                    apply t_B
                    · refine x_aload_n rfl ?_
                      refine x_aload_n rfl ?_
                      refine x_iload_n rfl ?_
                      refine x_iconst ?_
                      refine x_iadd ?_
                      refine x_ialdv (Or.inr tg_0) (if_pos rfl) (by omega) (show _ = xs (6 * k + 1) by rw [h0, show (((6 * k : Nat) : Int) + 1).toNat = 6 * k + 1 by omega]) ?_
                      refine x_aload_n rfl ?_
                      refine x_iload_n rfl ?_
                      refine x_iconst ?_
                      refine x_iadd ?_
                      refine x_ialdv (Or.inr tg_0) (if_pos rfl) (by omega) (show _ = xs (6 * k + 2) by rw [h0, show (((6 * k : Nat) : Int) + 2).toNat = 6 * k + 2 by omega]) ?_
                      refine x_V3i tg_3 (Nat.le_of_ble_eq_true rfl) r1 ?_
                      refine x_aload_n rfl ?_
                      refine x_aload_n rfl ?_
                      refine x_iload_n rfl ?_
                      refine x_iconst ?_
                      refine x_iadd ?_
                      refine x_ialdv (Or.inr tg_0) (if_pos rfl) (by omega) (show _ = xs (6 * k + 1) by rw [e1, show (((6 * k : Nat) : Int) + 1).toNat = 6 * k + 1 by omega]) ?_
                      refine x_aload_n rfl ?_
                      refine x_iload_n rfl ?_
                      refine x_iconst ?_
                      refine x_iadd ?_
                      refine x_ialdv (Or.inr tg_0) (if_pos rfl) (by omega) (show _ = xs (6 * k + 2) by rw [e1, show (((6 * k : Nat) : Int) + 2).toNat = 6 * k + 2 by omega]) ?_
                      refine x_V3i tg_301 (Nat.le_of_ble_eq_true rfl) r2 ?_
                      exact rfl
                    exact t_ic_eq_t ⟨hv, hv, rfl⟩
                  · decide
                · decide
              · decide
            · decide
          · decide
        · decide
      · decide
    · decide
  unfold pL_law_1041
  apply t_B
  · refine x_iinc rfl rfl ?_
    exact rfl
  exact t_goeq (s3 (by rw [show ((6 * k : Nat) : Int) + 6 = ((6 * (k + 1) : Nat) : Int) by omega]; rfl) rfl)
set_option maxRecDepth 10000 in
theorem l_within {L k : Nat} {xs : Nat → Int} (hL : L ≤ 3072) (hx : ∀ j, inR (xs j)) (hk : 6 * k + 6 ≤ L) {I : Nat → Nat → Int} {R : Nat → Nat → Option Nat} {u : Int64} {σ : Sg} (hs : Sok k σ) (hC : CI σ I R) (hR : RI σ I) (h0 : I 0 = xs) (hc : xs (6 * k) % 32 = 18) : ∃ I2 R2 u2 σ', am_ev (am_run am_tb 60) wL_law_18 ([vR 0, vR 3, vR 301, vI (6 * k : Nat)], [], LH L I R u) = some (18 + 2, [vR 0, vR 3, vR 301, vI (6 * (k + 1) : Nat)], [], LH L I2 R2 u2) ∧ Sok (k + 1) σ' ∧ CI σ' I2 R2 ∧ RI σ' I2 ∧ I2 0 = xs := by
  obtain ⟨v, σ', I1, R1, I2, u2, r1, r2, hv, s1, s2, s3', e1, e2⟩ := z_within (L := L) (v0 := u) hs (by omega) hC hR (hx (6 * k + 1)) (hx (6 * k + 2))
  rw [h0] at e1
  refine ⟨I2, R1, u2, σ', ?_, s1, s2, s3', e2.trans h0⟩
  unfold wL_law_18
  apply t_Q
  · unfold pL_law_18
    apply t_B
    · refine x_iload_n rfl ?_
      refine x_aload_n rfl ?_
      refine x_alen (Or.inr tg_0) ?_
      rw [show ln L 0 = L from if_pos rfl]
      refine x_bipush ?_
      refine x_isub ?_
      exact rfl
    exact t_ic_gt_f (by omega)
  apply t_Q
  · unfold pL_law_27
    apply t_S
    refine x_aload_n rfl ?_
    refine x_iload_n rfl ?_
    refine x_ialdv (Or.inr tg_0) (if_pos rfl) (by omega) (show _ = xs (6 * k) by rw [h0, Int.toNat_natCast]) ?_
    refine x_bipush ?_
    refine x_iand (by have := hx (6 * k); omega) ?_
    rw [show xs (6 * k) % (31 + 1) = xs (6 * k) % 32 from rfl, hc]
    exact rfl
  apply t_Q
  · apply t_K
    apply t_Qs
    apply t_Ks
    · apply t_Qs
      apply t_Ks
      · apply t_Qs
        apply t_Ks
        · apply t_Qs
          apply t_Ks
          · apply t_Qs
            apply t_Ks
            · apply t_Qs
              apply t_Ks
              · apply t_Qs
                apply t_Ks
                · apply t_Q
                  · apply t_K
                    apply t_Qs
                    apply t_Ks
                    · apply t_Qs
                      apply t_Ks
                      · apply t_Qs
                        apply t_Ks
                        · apply t_Qs
                          apply t_Ks
                          · apply t_Qs
                            apply t_Ks
                            · apply t_Qs
                              apply t_Ks
                              · apply t_Qs
                                apply t_Ks
                                · apply t_Qs
                                  apply t_Ks
                                  · apply t_Qs
                                    apply t_Ks
                                    · apply t_Qs
                                      apply t_Ks
                                      · apply t_Qs
                                        apply t_Ks
                                        · apply t_Qs
                                          apply t_Ks
                                          · apply t_Qs
                                            apply t_Ks
                                            · apply t_Qs
                                              apply t_Ks
                                              · apply t_Qs
                                                apply t_Ks
                                                · apply t_Qs
                                                  apply t_Ks
                                                  · apply t_Qs
                                                    apply t_Ks
                                                    · apply t_Qs
                                                      apply t_Ks
                                                      · unfold pL_law_33
                                                        apply t_B
                                                        · exact rfl
                                                        exact t_swi (by omega) rfl
                                                      · decide
                                                    · decide
                                                  · decide
                                                · decide
                                              · decide
                                            · decide
                                          · decide
                                        · decide
                                      · decide
                                    · decide
                                  · decide
                                · decide
                              · decide
                            · decide
                          · decide
                        · decide
                      · decide
                    · decide
                  apply t_Qs
                  unfold pL_law_866
                  apply t_B
                  · refine x_aload_n rfl ?_
                    refine x_aload_n rfl ?_
                    refine x_iload_n rfl ?_
                    refine x_iconst ?_
                    refine x_iadd ?_
                    refine x_ialdv (Or.inr tg_0) (if_pos rfl) (by omega) (show _ = xs (6 * k + 1) by rw [h0, show (((6 * k : Nat) : Int) + 1).toNat = 6 * k + 1 by omega]) ?_
                    refine x_aload_n rfl ?_
                    refine x_iload_n rfl ?_
                    refine x_iconst ?_
                    refine x_iadd ?_
                    refine x_ialdv (Or.inr tg_0) (if_pos rfl) (by omega) (show _ = xs (6 * k + 2) by rw [h0, show (((6 * k : Nat) : Int) + 2).toNat = 6 * k + 2 by omega]) ?_
                    refine x_V3i tg_3 (Nat.le_of_ble_eq_true rfl) r1 ?_
                    refine x_aload_n rfl ?_
                    refine x_aload_n rfl ?_
                    refine x_iload_n rfl ?_
                    refine x_iconst ?_
                    refine x_iadd ?_
                    refine x_ialdv (Or.inr tg_0) (if_pos rfl) (by omega) (show _ = xs (6 * k + 1) by rw [e1, show (((6 * k : Nat) : Int) + 1).toNat = 6 * k + 1 by omega]) ?_
                    refine x_aload_n rfl ?_
                    refine x_iload_n rfl ?_
                    refine x_iconst ?_
                    refine x_iadd ?_
                    refine x_ialdv (Or.inr tg_0) (if_pos rfl) (by omega) (show _ = xs (6 * k + 2) by rw [e1, show (((6 * k : Nat) : Int) + 2).toNat = 6 * k + 2 by omega]) ?_
                    refine x_V3i tg_301 (Nat.le_of_ble_eq_true rfl) r2 ?_
                    exact rfl
                  exact t_ic_eq_t ⟨hv, hv, rfl⟩
                · decide
              · decide
            · decide
          · decide
        · decide
      · decide
    · decide
  unfold pL_law_1041
  apply t_B
  · refine x_iinc rfl rfl ?_
    exact rfl
  exact t_goeq (s3 (by rw [show ((6 * k : Nat) : Int) + 6 = ((6 * (k + 1) : Nat) : Int) by omega]; rfl) rfl)
set_option maxRecDepth 10000 in
theorem l_type {L k : Nat} {xs : Nat → Int} (hL : L ≤ 3072) (hx : ∀ j, inR (xs j)) (hk : 6 * k + 6 ≤ L) {I : Nat → Nat → Int} {R : Nat → Nat → Option Nat} {u : Int64} {σ : Sg} (hs : Sok k σ) (hC : CI σ I R) (hR : RI σ I) (h0 : I 0 = xs) (hc : xs (6 * k) % 32 = 19) : ∃ I2 R2 u2 σ', am_ev (am_run am_tb 60) wL_law_18 ([vR 0, vR 3, vR 301, vI (6 * k : Nat)], [], LH L I R u) = some (18 + 2, [vR 0, vR 3, vR 301, vI (6 * (k + 1) : Nat)], [], LH L I2 R2 u2) ∧ Sok (k + 1) σ' ∧ CI σ' I2 R2 ∧ RI σ' I2 ∧ I2 0 = xs := by
  obtain ⟨v, σ', I1, R1, I2, u2, r1, r2, hv, s1, s2, s3', e1, e2⟩ := z_type (L := L) (v0 := u) hs (by omega) hC hR (hx (6 * k + 1))
  rw [h0] at e1
  refine ⟨I2, R1, u2, σ', ?_, s1, s2, s3', e2.trans h0⟩
  unfold wL_law_18
  apply t_Q
  · unfold pL_law_18
    apply t_B
    · refine x_iload_n rfl ?_
      refine x_aload_n rfl ?_
      refine x_alen (Or.inr tg_0) ?_
      rw [show ln L 0 = L from if_pos rfl]
      refine x_bipush ?_
      refine x_isub ?_
      exact rfl
    exact t_ic_gt_f (by omega)
  apply t_Q
  · unfold pL_law_27
    apply t_S
    refine x_aload_n rfl ?_
    refine x_iload_n rfl ?_
    refine x_ialdv (Or.inr tg_0) (if_pos rfl) (by omega) (show _ = xs (6 * k) by rw [h0, Int.toNat_natCast]) ?_
    refine x_bipush ?_
    refine x_iand (by have := hx (6 * k); omega) ?_
    rw [show xs (6 * k) % (31 + 1) = xs (6 * k) % 32 from rfl, hc]
    exact rfl
  apply t_Q
  · apply t_K
    apply t_Qs
    apply t_Ks
    · apply t_Qs
      apply t_Ks
      · apply t_Qs
        apply t_Ks
        · apply t_Qs
          apply t_Ks
          · apply t_Qs
            apply t_Ks
            · apply t_Qs
              apply t_Ks
              · apply t_Q
                · apply t_K
                  apply t_Qs
                  apply t_Ks
                  · apply t_Qs
                    apply t_Ks
                    · apply t_Qs
                      apply t_Ks
                      · apply t_Qs
                        apply t_Ks
                        · apply t_Qs
                          apply t_Ks
                          · apply t_Qs
                            apply t_Ks
                            · apply t_Qs
                              apply t_Ks
                              · apply t_Qs
                                apply t_Ks
                                · apply t_Qs
                                  apply t_Ks
                                  · apply t_Qs
                                    apply t_Ks
                                    · apply t_Qs
                                      apply t_Ks
                                      · apply t_Qs
                                        apply t_Ks
                                        · apply t_Qs
                                          apply t_Ks
                                          · apply t_Qs
                                            apply t_Ks
                                            · apply t_Qs
                                              apply t_Ks
                                              · apply t_Qs
                                                apply t_Ks
                                                · apply t_Qs
                                                  apply t_Ks
                                                  · apply t_Qs
                                                    apply t_Ks
                                                    · apply t_Qs
                                                      apply t_Ks
                                                      · unfold pL_law_33
                                                        apply t_B
                                                        · exact rfl
                                                        exact t_swi (by omega) rfl
                                                      · decide
                                                    · decide
                                                  · decide
                                                · decide
                                              · decide
                                            · decide
                                          · decide
                                        · decide
                                      · decide
                                    · decide
                                  · decide
                                · decide
                              · decide
                            · decide
                          · decide
                        · decide
                      · decide
                    · decide
                  · decide
                apply t_Qs
                unfold pL_law_899
                apply t_B
                · refine x_aload_n rfl ?_
                  refine x_aload_n rfl ?_
                  refine x_iload_n rfl ?_
                  refine x_iconst ?_
                  refine x_iadd ?_
                  refine x_ialdv (Or.inr tg_0) (if_pos rfl) (by omega) (show _ = xs (6 * k + 1) by rw [h0, show (((6 * k : Nat) : Int) + 1).toNat = 6 * k + 1 by omega]) ?_
                  refine x_V2i tg_3 (Nat.le_of_ble_eq_true rfl) r1 ?_
                  refine x_aload_n rfl ?_
                  refine x_aload_n rfl ?_
                  refine x_iload_n rfl ?_
                  refine x_iconst ?_
                  refine x_iadd ?_
                  refine x_ialdv (Or.inr tg_0) (if_pos rfl) (by omega) (show _ = xs (6 * k + 1) by rw [e1, show (((6 * k : Nat) : Int) + 1).toNat = 6 * k + 1 by omega]) ?_
                  refine x_V2i tg_301 (Nat.le_of_ble_eq_true rfl) r2 ?_
                  exact rfl
                exact t_ic_eq_t ⟨hv, hv, rfl⟩
              · decide
            · decide
          · decide
        · decide
      · decide
    · decide
  unfold pL_law_1041
  apply t_B
  · refine x_iinc rfl rfl ?_
    exact rfl
  exact t_goeq (s3 (by rw [show ((6 * k : Nat) : Int) + 6 = ((6 * (k + 1) : Nat) : Int) by omega]; rfl) rfl)
set_option maxRecDepth 10000 in
theorem l_clear {L k : Nat} {xs : Nat → Int} (hL : L ≤ 3072) (hx : ∀ j, inR (xs j)) (hk : 6 * k + 6 ≤ L) {I : Nat → Nat → Int} {R : Nat → Nat → Option Nat} {u : Int64} {σ : Sg} (hs : Sok k σ) (hC : CI σ I R) (hR : RI σ I) (h0 : I 0 = xs) (hc : xs (6 * k) % 32 = 20) : ∃ I2 R2 u2 σ', am_ev (am_run am_tb 60) wL_law_18 ([vR 0, vR 3, vR 301, vI (6 * k : Nat)], [], LH L I R u) = some (18 + 2, [vR 0, vR 3, vR 301, vI (6 * (k + 1) : Nat)], [], LH L I2 R2 u2) ∧ Sok (k + 1) σ' ∧ CI σ' I2 R2 ∧ RI σ' I2 ∧ I2 0 = xs := by
  obtain ⟨v, σ', I1, R1, I2, u2, r1, r2, hv, s1, s2, s3', e1, e2⟩ := y_clear (L := L) (v0 := u) hs hC hR
  rw [h0] at e1
  refine ⟨I2, R1, u2, σ', ?_, s1, s2, s3', e2.trans h0⟩
  unfold wL_law_18
  apply t_Q
  · unfold pL_law_18
    apply t_B
    · refine x_iload_n rfl ?_
      refine x_aload_n rfl ?_
      refine x_alen (Or.inr tg_0) ?_
      rw [show ln L 0 = L from if_pos rfl]
      refine x_bipush ?_
      refine x_isub ?_
      exact rfl
    exact t_ic_gt_f (by omega)
  apply t_Q
  · unfold pL_law_27
    apply t_S
    refine x_aload_n rfl ?_
    refine x_iload_n rfl ?_
    refine x_ialdv (Or.inr tg_0) (if_pos rfl) (by omega) (show _ = xs (6 * k) by rw [h0, Int.toNat_natCast]) ?_
    refine x_bipush ?_
    refine x_iand (by have := hx (6 * k); omega) ?_
    rw [show xs (6 * k) % (31 + 1) = xs (6 * k) % 32 from rfl, hc]
    exact rfl
  apply t_Q
  · apply t_K
    apply t_Qs
    apply t_Ks
    · apply t_Qs
      apply t_Ks
      · apply t_Qs
        apply t_Ks
        · apply t_Qs
          apply t_Ks
          · apply t_Qs
            apply t_Ks
            · apply t_Q
              · apply t_K
                apply t_Qs
                apply t_Ks
                · apply t_Qs
                  apply t_Ks
                  · apply t_Qs
                    apply t_Ks
                    · apply t_Qs
                      apply t_Ks
                      · apply t_Qs
                        apply t_Ks
                        · apply t_Qs
                          apply t_Ks
                          · apply t_Qs
                            apply t_Ks
                            · apply t_Qs
                              apply t_Ks
                              · apply t_Qs
                                apply t_Ks
                                · apply t_Qs
                                  apply t_Ks
                                  · apply t_Qs
                                    apply t_Ks
                                    · apply t_Qs
                                      apply t_Ks
                                      · apply t_Qs
                                        apply t_Ks
                                        · apply t_Qs
                                          apply t_Ks
                                          · apply t_Qs
                                            apply t_Ks
                                            · apply t_Qs
                                              apply t_Ks
                                              · apply t_Qs
                                                apply t_Ks
                                                · apply t_Qs
                                                  apply t_Ks
                                                  · apply t_Qs
                                                    apply t_Ks
                                                    · apply t_Qs
                                                      apply t_Ks
                                                      · unfold pL_law_33
                                                        apply t_B
                                                        · exact rfl
                                                        exact t_swi (by omega) rfl
                                                      · decide
                                                    · decide
                                                  · decide
                                                · decide
                                              · decide
                                            · decide
                                          · decide
                                        · decide
                                      · decide
                                    · decide
                                  · decide
                                · decide
                              · decide
                            · decide
                          · decide
                        · decide
                      · decide
                    · decide
                  · decide
                · decide
              apply t_Qs
              unfold pL_law_922
              apply t_B
              · refine x_aload_n rfl ?_
                refine x_V1i tg_3 (Nat.le_of_ble_eq_true rfl) r1 ?_
                refine x_aload_n rfl ?_
                refine x_V1i tg_301 (Nat.le_of_ble_eq_true rfl) r2 ?_
                exact rfl
              exact t_ic_eq_t ⟨hv, hv, rfl⟩
            · decide
          · decide
        · decide
      · decide
    · decide
  unfold pL_law_1041
  apply t_B
  · refine x_iinc rfl rfl ?_
    exact rfl
  exact t_goeq (s3 (by rw [show ((6 * k : Nat) : Int) + 6 = ((6 * (k + 1) : Nat) : Int) by omega]; rfl) rfl)
set_option maxRecDepth 10000 in
theorem l_reads {L k : Nat} {xs : Nat → Int} (hL : L ≤ 3072) (hx : ∀ j, inR (xs j)) (hk : 6 * k + 6 ≤ L) {I : Nat → Nat → Int} {R : Nat → Nat → Option Nat} {u : Int64} {σ : Sg} (hs : Sok k σ) (hC : CI σ I R) (hR : RI σ I) (h0 : I 0 = xs) (hc : xs (6 * k) % 32 = 21) : ∃ I2 R2 u2 σ', am_ev (am_run am_tb 60) wL_law_18 ([vR 0, vR 3, vR 301, vI (6 * k : Nat)], [], LH L I R u) = some (18 + 2, [vR 0, vR 3, vR 301, vI (6 * (k + 1) : Nat)], [], LH L I2 R2 u2) ∧ Sok (k + 1) σ' ∧ CI σ' I2 R2 ∧ RI σ' I2 ∧ I2 0 = xs := by
  obtain ⟨v, σ', I1, R1, I2, u2, r1, r2, hv, s1, s2, s3', e1, e2⟩ := z_reads (L := L) (v0 := u) hs (by omega) hC hR (hx (6 * k + 1))
  rw [h0] at e1
  refine ⟨I2, R1, u2, σ', ?_, s1, s2, s3', e2.trans h0⟩
  unfold wL_law_18
  apply t_Q
  · unfold pL_law_18
    apply t_B
    · refine x_iload_n rfl ?_
      refine x_aload_n rfl ?_
      refine x_alen (Or.inr tg_0) ?_
      rw [show ln L 0 = L from if_pos rfl]
      refine x_bipush ?_
      refine x_isub ?_
      exact rfl
    exact t_ic_gt_f (by omega)
  apply t_Q
  · unfold pL_law_27
    apply t_S
    refine x_aload_n rfl ?_
    refine x_iload_n rfl ?_
    refine x_ialdv (Or.inr tg_0) (if_pos rfl) (by omega) (show _ = xs (6 * k) by rw [h0, Int.toNat_natCast]) ?_
    refine x_bipush ?_
    refine x_iand (by have := hx (6 * k); omega) ?_
    rw [show xs (6 * k) % (31 + 1) = xs (6 * k) % 32 from rfl, hc]
    exact rfl
  apply t_Q
  · apply t_K
    apply t_Qs
    apply t_Ks
    · apply t_Qs
      apply t_Ks
      · apply t_Qs
        apply t_Ks
        · apply t_Qs
          apply t_Ks
          · apply t_Q
            · apply t_K
              apply t_Qs
              apply t_Ks
              · apply t_Qs
                apply t_Ks
                · apply t_Qs
                  apply t_Ks
                  · apply t_Qs
                    apply t_Ks
                    · apply t_Qs
                      apply t_Ks
                      · apply t_Qs
                        apply t_Ks
                        · apply t_Qs
                          apply t_Ks
                          · apply t_Qs
                            apply t_Ks
                            · apply t_Qs
                              apply t_Ks
                              · apply t_Qs
                                apply t_Ks
                                · apply t_Qs
                                  apply t_Ks
                                  · apply t_Qs
                                    apply t_Ks
                                    · apply t_Qs
                                      apply t_Ks
                                      · apply t_Qs
                                        apply t_Ks
                                        · apply t_Qs
                                          apply t_Ks
                                          · apply t_Qs
                                            apply t_Ks
                                            · apply t_Qs
                                              apply t_Ks
                                              · apply t_Qs
                                                apply t_Ks
                                                · apply t_Qs
                                                  apply t_Ks
                                                  · apply t_Qs
                                                    apply t_Ks
                                                    · apply t_Qs
                                                      apply t_Ks
                                                      · unfold pL_law_33
                                                        apply t_B
                                                        · exact rfl
                                                        exact t_swi (by omega) rfl
                                                      · decide
                                                    · decide
                                                  · decide
                                                · decide
                                              · decide
                                            · decide
                                          · decide
                                        · decide
                                      · decide
                                    · decide
                                  · decide
                                · decide
                              · decide
                            · decide
                          · decide
                        · decide
                      · decide
                    · decide
                  · decide
                · decide
              · decide
            apply t_Qs
            unfold pL_law_935
            apply t_B
            · refine x_aload_n rfl ?_
              refine x_aload_n rfl ?_
              refine x_iload_n rfl ?_
              refine x_iconst ?_
              refine x_iadd ?_
              refine x_ialdv (Or.inr tg_0) (if_pos rfl) (by omega) (show _ = xs (6 * k + 1) by rw [h0, show (((6 * k : Nat) : Int) + 1).toNat = 6 * k + 1 by omega]) ?_
              refine x_V2i tg_3 (Nat.le_of_ble_eq_true rfl) r1 ?_
              refine x_aload_n rfl ?_
              refine x_aload_n rfl ?_
              refine x_iload_n rfl ?_
              refine x_iconst ?_
              refine x_iadd ?_
              refine x_ialdv (Or.inr tg_0) (if_pos rfl) (by omega) (show _ = xs (6 * k + 1) by rw [e1, show (((6 * k : Nat) : Int) + 1).toNat = 6 * k + 1 by omega]) ?_
              refine x_V2i tg_301 (Nat.le_of_ble_eq_true rfl) r2 ?_
              exact rfl
            exact t_ic_eq_t ⟨hv, hv, rfl⟩
          · decide
        · decide
      · decide
    · decide
  unfold pL_law_1041
  apply t_B
  · refine x_iinc rfl rfl ?_
    exact rfl
  exact t_goeq (s3 (by rw [show ((6 * k : Nat) : Int) + 6 = ((6 * (k + 1) : Nat) : Int) by omega]; rfl) rfl)
set_option maxRecDepth 10000 in
theorem l_shown {L k : Nat} {xs : Nat → Int} (hL : L ≤ 3072) (hx : ∀ j, inR (xs j)) (hk : 6 * k + 6 ≤ L) {I : Nat → Nat → Int} {R : Nat → Nat → Option Nat} {u : Int64} {σ : Sg} (hs : Sok k σ) (hC : CI σ I R) (hR : RI σ I) (h0 : I 0 = xs) (hc : xs (6 * k) % 32 = 22) : ∃ I2 R2 u2 σ', am_ev (am_run am_tb 60) wL_law_18 ([vR 0, vR 3, vR 301, vI (6 * k : Nat)], [], LH L I R u) = some (18 + 2, [vR 0, vR 3, vR 301, vI (6 * (k + 1) : Nat)], [], LH L I2 R2 u2) ∧ Sok (k + 1) σ' ∧ CI σ' I2 R2 ∧ RI σ' I2 ∧ I2 0 = xs := by
  obtain ⟨v, σ', I1, R1, I2, u2, r1, r2, hv, s1, s2, s3', e1, e2⟩ := z_shown (L := L) (v0 := u) hs (by omega) hC hR (hx (6 * k + 1)) (hx (6 * k + 2))
  rw [h0] at e1
  refine ⟨I2, R1, u2, σ', ?_, s1, s2, s3', e2.trans h0⟩
  unfold wL_law_18
  apply t_Q
  · unfold pL_law_18
    apply t_B
    · refine x_iload_n rfl ?_
      refine x_aload_n rfl ?_
      refine x_alen (Or.inr tg_0) ?_
      rw [show ln L 0 = L from if_pos rfl]
      refine x_bipush ?_
      refine x_isub ?_
      exact rfl
    exact t_ic_gt_f (by omega)
  apply t_Q
  · unfold pL_law_27
    apply t_S
    refine x_aload_n rfl ?_
    refine x_iload_n rfl ?_
    refine x_ialdv (Or.inr tg_0) (if_pos rfl) (by omega) (show _ = xs (6 * k) by rw [h0, Int.toNat_natCast]) ?_
    refine x_bipush ?_
    refine x_iand (by have := hx (6 * k); omega) ?_
    rw [show xs (6 * k) % (31 + 1) = xs (6 * k) % 32 from rfl, hc]
    exact rfl
  apply t_Q
  · apply t_K
    apply t_Qs
    apply t_Ks
    · apply t_Qs
      apply t_Ks
      · apply t_Qs
        apply t_Ks
        · apply t_Q
          · apply t_K
            apply t_Qs
            apply t_Ks
            · apply t_Qs
              apply t_Ks
              · apply t_Qs
                apply t_Ks
                · apply t_Qs
                  apply t_Ks
                  · apply t_Qs
                    apply t_Ks
                    · apply t_Qs
                      apply t_Ks
                      · apply t_Qs
                        apply t_Ks
                        · apply t_Qs
                          apply t_Ks
                          · apply t_Qs
                            apply t_Ks
                            · apply t_Qs
                              apply t_Ks
                              · apply t_Qs
                                apply t_Ks
                                · apply t_Qs
                                  apply t_Ks
                                  · apply t_Qs
                                    apply t_Ks
                                    · apply t_Qs
                                      apply t_Ks
                                      · apply t_Qs
                                        apply t_Ks
                                        · apply t_Qs
                                          apply t_Ks
                                          · apply t_Qs
                                            apply t_Ks
                                            · apply t_Qs
                                              apply t_Ks
                                              · apply t_Qs
                                                apply t_Ks
                                                · apply t_Qs
                                                  apply t_Ks
                                                  · apply t_Qs
                                                    apply t_Ks
                                                    · apply t_Qs
                                                      apply t_Ks
                                                      · unfold pL_law_33
                                                        apply t_B
                                                        · exact rfl
                                                        exact t_swi (by omega) rfl
                                                      · decide
                                                    · decide
                                                  · decide
                                                · decide
                                              · decide
                                            · decide
                                          · decide
                                        · decide
                                      · decide
                                    · decide
                                  · decide
                                · decide
                              · decide
                            · decide
                          · decide
                        · decide
                      · decide
                    · decide
                  · decide
                · decide
              · decide
            · decide
          apply t_Qs
          unfold pL_law_958
          apply t_B
          · refine x_aload_n rfl ?_
            refine x_aload_n rfl ?_
            refine x_iload_n rfl ?_
            refine x_iconst ?_
            refine x_iadd ?_
            refine x_ialdv (Or.inr tg_0) (if_pos rfl) (by omega) (show _ = xs (6 * k + 1) by rw [h0, show (((6 * k : Nat) : Int) + 1).toNat = 6 * k + 1 by omega]) ?_
            refine x_aload_n rfl ?_
            refine x_iload_n rfl ?_
            refine x_iconst ?_
            refine x_iadd ?_
            refine x_ialdv (Or.inr tg_0) (if_pos rfl) (by omega) (show _ = xs (6 * k + 2) by rw [h0, show (((6 * k : Nat) : Int) + 2).toNat = 6 * k + 2 by omega]) ?_
            refine x_V3i tg_3 (Nat.le_of_ble_eq_true rfl) r1 ?_
            refine x_aload_n rfl ?_
            refine x_aload_n rfl ?_
            refine x_iload_n rfl ?_
            refine x_iconst ?_
            refine x_iadd ?_
            refine x_ialdv (Or.inr tg_0) (if_pos rfl) (by omega) (show _ = xs (6 * k + 1) by rw [e1, show (((6 * k : Nat) : Int) + 1).toNat = 6 * k + 1 by omega]) ?_
            refine x_aload_n rfl ?_
            refine x_iload_n rfl ?_
            refine x_iconst ?_
            refine x_iadd ?_
            refine x_ialdv (Or.inr tg_0) (if_pos rfl) (by omega) (show _ = xs (6 * k + 2) by rw [e1, show (((6 * k : Nat) : Int) + 2).toNat = 6 * k + 2 by omega]) ?_
            refine x_V3i tg_301 (Nat.le_of_ble_eq_true rfl) r2 ?_
            exact rfl
          exact t_ic_eq_t ⟨hv, hv, rfl⟩
        · decide
      · decide
    · decide
  unfold pL_law_1041
  apply t_B
  · refine x_iinc rfl rfl ?_
    exact rfl
  exact t_goeq (s3 (by rw [show ((6 * k : Nat) : Int) + 6 = ((6 * (k + 1) : Nat) : Int) by omega]; rfl) rfl)
set_option maxRecDepth 10000 in
theorem l_back {L k : Nat} {xs : Nat → Int} (hL : L ≤ 3072) (hx : ∀ j, inR (xs j)) (hk : 6 * k + 6 ≤ L) {I : Nat → Nat → Int} {R : Nat → Nat → Option Nat} {u : Int64} {σ : Sg} (hs : Sok k σ) (hC : CI σ I R) (hR : RI σ I) (h0 : I 0 = xs) (hc : xs (6 * k) % 32 = 23) : ∃ I2 R2 u2 σ', am_ev (am_run am_tb 60) wL_law_18 ([vR 0, vR 3, vR 301, vI (6 * k : Nat)], [], LH L I R u) = some (18 + 2, [vR 0, vR 3, vR 301, vI (6 * (k + 1) : Nat)], [], LH L I2 R2 u2) ∧ Sok (k + 1) σ' ∧ CI σ' I2 R2 ∧ RI σ' I2 ∧ I2 0 = xs := by
  obtain ⟨v, σ', I1, R1, I2, u2, r1, r2, hv, s1, s2, s3', e1, e2⟩ := y_back (L := L) (v0 := u) hs hC hR
  rw [h0] at e1
  refine ⟨I2, R1, u2, σ', ?_, s1, s2, s3', e2.trans h0⟩
  unfold wL_law_18
  apply t_Q
  · unfold pL_law_18
    apply t_B
    · refine x_iload_n rfl ?_
      refine x_aload_n rfl ?_
      refine x_alen (Or.inr tg_0) ?_
      rw [show ln L 0 = L from if_pos rfl]
      refine x_bipush ?_
      refine x_isub ?_
      exact rfl
    exact t_ic_gt_f (by omega)
  apply t_Q
  · unfold pL_law_27
    apply t_S
    refine x_aload_n rfl ?_
    refine x_iload_n rfl ?_
    refine x_ialdv (Or.inr tg_0) (if_pos rfl) (by omega) (show _ = xs (6 * k) by rw [h0, Int.toNat_natCast]) ?_
    refine x_bipush ?_
    refine x_iand (by have := hx (6 * k); omega) ?_
    rw [show xs (6 * k) % (31 + 1) = xs (6 * k) % 32 from rfl, hc]
    exact rfl
  apply t_Q
  · apply t_K
    apply t_Qs
    apply t_Ks
    · apply t_Qs
      apply t_Ks
      · apply t_Q
        · apply t_K
          apply t_Qs
          apply t_Ks
          · apply t_Qs
            apply t_Ks
            · apply t_Qs
              apply t_Ks
              · apply t_Qs
                apply t_Ks
                · apply t_Qs
                  apply t_Ks
                  · apply t_Qs
                    apply t_Ks
                    · apply t_Qs
                      apply t_Ks
                      · apply t_Qs
                        apply t_Ks
                        · apply t_Qs
                          apply t_Ks
                          · apply t_Qs
                            apply t_Ks
                            · apply t_Qs
                              apply t_Ks
                              · apply t_Qs
                                apply t_Ks
                                · apply t_Qs
                                  apply t_Ks
                                  · apply t_Qs
                                    apply t_Ks
                                    · apply t_Qs
                                      apply t_Ks
                                      · apply t_Qs
                                        apply t_Ks
                                        · apply t_Qs
                                          apply t_Ks
                                          · apply t_Qs
                                            apply t_Ks
                                            · apply t_Qs
                                              apply t_Ks
                                              · apply t_Qs
                                                apply t_Ks
                                                · apply t_Qs
                                                  apply t_Ks
                                                  · apply t_Qs
                                                    apply t_Ks
                                                    · apply t_Qs
                                                      apply t_Ks
                                                      · unfold pL_law_33
                                                        apply t_B
                                                        · exact rfl
                                                        exact t_swi (by omega) rfl
                                                      · decide
                                                    · decide
                                                  · decide
                                                · decide
                                              · decide
                                            · decide
                                          · decide
                                        · decide
                                      · decide
                                    · decide
                                  · decide
                                · decide
                              · decide
                            · decide
                          · decide
                        · decide
                      · decide
                    · decide
                  · decide
                · decide
              · decide
            · decide
          · decide
        apply t_Qs
        unfold pL_law_991
        apply t_B
        · refine x_aload_n rfl ?_
          refine x_V1i tg_3 (Nat.le_of_ble_eq_true rfl) r1 ?_
          refine x_aload_n rfl ?_
          refine x_V1i tg_301 (Nat.le_of_ble_eq_true rfl) r2 ?_
          exact rfl
        exact t_ic_eq_t ⟨hv, hv, rfl⟩
      · decide
    · decide
  unfold pL_law_1041
  apply t_B
  · refine x_iinc rfl rfl ?_
    exact rfl
  exact t_goeq (s3 (by rw [show ((6 * k : Nat) : Int) + 6 = ((6 * (k + 1) : Nat) : Int) by omega]; rfl) rfl)
set_option maxRecDepth 10000 in
theorem l_told {L k : Nat} {xs : Nat → Int} (hL : L ≤ 3072) (hx : ∀ j, inR (xs j)) (hk : 6 * k + 6 ≤ L) {I : Nat → Nat → Int} {R : Nat → Nat → Option Nat} {u : Int64} {σ : Sg} (hs : Sok k σ) (hC : CI σ I R) (hR : RI σ I) (h0 : I 0 = xs) (hc : xs (6 * k) % 32 = 24) : ∃ I2 R2 u2 σ', am_ev (am_run am_tb 60) wL_law_18 ([vR 0, vR 3, vR 301, vI (6 * k : Nat)], [], LH L I R u) = some (18 + 2, [vR 0, vR 3, vR 301, vI (6 * (k + 1) : Nat)], [], LH L I2 R2 u2) ∧ Sok (k + 1) σ' ∧ CI σ' I2 R2 ∧ RI σ' I2 ∧ I2 0 = xs := by
  obtain ⟨v, σ', I1, R1, I2, u2, r1, r2, hv, s1, s2, s3', e1, e2⟩ := z_told (L := L) (v0 := u) hs (by omega) hC hR (hx (6 * k + 1))
  rw [h0] at e1
  refine ⟨I2, R1, u2, σ', ?_, s1, s2, s3', e2.trans h0⟩
  unfold wL_law_18
  apply t_Q
  · unfold pL_law_18
    apply t_B
    · refine x_iload_n rfl ?_
      refine x_aload_n rfl ?_
      refine x_alen (Or.inr tg_0) ?_
      rw [show ln L 0 = L from if_pos rfl]
      refine x_bipush ?_
      refine x_isub ?_
      exact rfl
    exact t_ic_gt_f (by omega)
  apply t_Q
  · unfold pL_law_27
    apply t_S
    refine x_aload_n rfl ?_
    refine x_iload_n rfl ?_
    refine x_ialdv (Or.inr tg_0) (if_pos rfl) (by omega) (show _ = xs (6 * k) by rw [h0, Int.toNat_natCast]) ?_
    refine x_bipush ?_
    refine x_iand (by have := hx (6 * k); omega) ?_
    rw [show xs (6 * k) % (31 + 1) = xs (6 * k) % 32 from rfl, hc]
    exact rfl
  apply t_Q
  · apply t_K
    apply t_Qs
    apply t_Ks
    · apply t_Q
      · apply t_K
        apply t_Qs
        apply t_Ks
        · apply t_Qs
          apply t_Ks
          · apply t_Qs
            apply t_Ks
            · apply t_Qs
              apply t_Ks
              · apply t_Qs
                apply t_Ks
                · apply t_Qs
                  apply t_Ks
                  · apply t_Qs
                    apply t_Ks
                    · apply t_Qs
                      apply t_Ks
                      · apply t_Qs
                        apply t_Ks
                        · apply t_Qs
                          apply t_Ks
                          · apply t_Qs
                            apply t_Ks
                            · apply t_Qs
                              apply t_Ks
                              · apply t_Qs
                                apply t_Ks
                                · apply t_Qs
                                  apply t_Ks
                                  · apply t_Qs
                                    apply t_Ks
                                    · apply t_Qs
                                      apply t_Ks
                                      · apply t_Qs
                                        apply t_Ks
                                        · apply t_Qs
                                          apply t_Ks
                                          · apply t_Qs
                                            apply t_Ks
                                            · apply t_Qs
                                              apply t_Ks
                                              · apply t_Qs
                                                apply t_Ks
                                                · apply t_Qs
                                                  apply t_Ks
                                                  · apply t_Qs
                                                    apply t_Ks
                                                    · apply t_Qs
                                                      apply t_Ks
                                                      · unfold pL_law_33
                                                        apply t_B
                                                        · exact rfl
                                                        exact t_swi (by omega) rfl
                                                      · decide
                                                    · decide
                                                  · decide
                                                · decide
                                              · decide
                                            · decide
                                          · decide
                                        · decide
                                      · decide
                                    · decide
                                  · decide
                                · decide
                              · decide
                            · decide
                          · decide
                        · decide
                      · decide
                    · decide
                  · decide
                · decide
              · decide
            · decide
          · decide
        · decide
      apply t_Qs
      unfold pL_law_1004
      apply t_B
      · refine x_aload_n rfl ?_
        refine x_aload_n rfl ?_
        refine x_iload_n rfl ?_
        refine x_iconst ?_
        refine x_iadd ?_
        refine x_ialdv (Or.inr tg_0) (if_pos rfl) (by omega) (show _ = xs (6 * k + 1) by rw [h0, show (((6 * k : Nat) : Int) + 1).toNat = 6 * k + 1 by omega]) ?_
        refine x_V2i tg_3 (Nat.le_of_ble_eq_true rfl) r1 ?_
        refine x_aload_n rfl ?_
        refine x_aload_n rfl ?_
        refine x_iload_n rfl ?_
        refine x_iconst ?_
        refine x_iadd ?_
        refine x_ialdv (Or.inr tg_0) (if_pos rfl) (by omega) (show _ = xs (6 * k + 1) by rw [e1, show (((6 * k : Nat) : Int) + 1).toNat = 6 * k + 1 by omega]) ?_
        refine x_V2i tg_301 (Nat.le_of_ble_eq_true rfl) r2 ?_
        exact rfl
      exact t_ic_eq_t ⟨hv, hv, rfl⟩
    · decide
  unfold pL_law_1041
  apply t_B
  · refine x_iinc rfl rfl ?_
    exact rfl
  exact t_goeq (s3 (by rw [show ((6 * k : Nat) : Int) + 6 = ((6 * (k + 1) : Nat) : Int) by omega]; rfl) rfl)
set_option maxRecDepth 10000 in
theorem l_digest {L k : Nat} {xs : Nat → Int} (hL : L ≤ 3072) (hx : ∀ j, inR (xs j)) (hk : 6 * k + 6 ≤ L) {I : Nat → Nat → Int} {R : Nat → Nat → Option Nat} {u : Int64} {σ : Sg} (hs : Sok k σ) (hC : CI σ I R) (hR : RI σ I) (h0 : I 0 = xs) (hc : xs (6 * k) % 32 = 25) : ∃ I2 R2 u2 σ', am_ev (am_run am_tb 60) wL_law_18 ([vR 0, vR 3, vR 301, vI (6 * k : Nat)], [], LH L I R u) = some (18 + 2, [vR 0, vR 3, vR 301, vI (6 * (k + 1) : Nat)], [], LH L I2 R2 u2) ∧ Sok (k + 1) σ' ∧ CI σ' I2 R2 ∧ RI σ' I2 ∧ I2 0 = xs := by
  obtain ⟨v, I2, u2, r1, r2, s1, s2, s3', e2⟩ := y_digest (L := L) (v0 := u) hs (by omega) hC hR
  refine ⟨I2, R, u2, σ, ?_, s1, s2, s3', e2.trans h0⟩
  unfold wL_law_18
  apply t_Q
  · unfold pL_law_18
    apply t_B
    · refine x_iload_n rfl ?_
      refine x_aload_n rfl ?_
      refine x_alen (Or.inr tg_0) ?_
      rw [show ln L 0 = L from if_pos rfl]
      refine x_bipush ?_
      refine x_isub ?_
      exact rfl
    exact t_ic_gt_f (by omega)
  apply t_Q
  · unfold pL_law_27
    apply t_S
    refine x_aload_n rfl ?_
    refine x_iload_n rfl ?_
    refine x_ialdv (Or.inr tg_0) (if_pos rfl) (by omega) (show _ = xs (6 * k) by rw [h0, Int.toNat_natCast]) ?_
    refine x_bipush ?_
    refine x_iand (by have := hx (6 * k); omega) ?_
    rw [show xs (6 * k) % (31 + 1) = xs (6 * k) % 32 from rfl, hc]
    exact rfl
  apply t_Q
  · apply t_K
    apply t_Q
    · apply t_K
      apply t_Qs
      apply t_Ks
      · apply t_Qs
        apply t_Ks
        · apply t_Qs
          apply t_Ks
          · apply t_Qs
            apply t_Ks
            · apply t_Qs
              apply t_Ks
              · apply t_Qs
                apply t_Ks
                · apply t_Qs
                  apply t_Ks
                  · apply t_Qs
                    apply t_Ks
                    · apply t_Qs
                      apply t_Ks
                      · apply t_Qs
                        apply t_Ks
                        · apply t_Qs
                          apply t_Ks
                          · apply t_Qs
                            apply t_Ks
                            · apply t_Qs
                              apply t_Ks
                              · apply t_Qs
                                apply t_Ks
                                · apply t_Qs
                                  apply t_Ks
                                  · apply t_Qs
                                    apply t_Ks
                                    · apply t_Qs
                                      apply t_Ks
                                      · apply t_Qs
                                        apply t_Ks
                                        · apply t_Qs
                                          apply t_Ks
                                          · apply t_Qs
                                            apply t_Ks
                                            · apply t_Qs
                                              apply t_Ks
                                              · apply t_Qs
                                                apply t_Ks
                                                · apply t_Qs
                                                  apply t_Ks
                                                  · apply t_Qs
                                                    apply t_Ks
                                                    · apply t_Qs
                                                      apply t_Ks
                                                      · unfold pL_law_33
                                                        apply t_B
                                                        · exact rfl
                                                        exact t_swi (by omega) rfl
                                                      · decide
                                                    · decide
                                                  · decide
                                                · decide
                                              · decide
                                            · decide
                                          · decide
                                        · decide
                                      · decide
                                    · decide
                                  · decide
                                · decide
                              · decide
                            · decide
                          · decide
                        · decide
                      · decide
                    · decide
                  · decide
                · decide
              · decide
            · decide
          · decide
        · decide
      · decide
    apply t_Qs
    unfold pL_law_1027
    apply t_B
    · refine x_aload_n rfl ?_
      refine x_V1i tg_3 (Nat.le_of_ble_eq_true rfl) r1 ?_
      refine x_aload_n rfl ?_
      refine x_V1i tg_301 (Nat.le_of_ble_eq_true rfl) r2 ?_
      refine x_lcmp ?_
      rw [lg_self]
      exact rfl
    exact t_if_eq_t (by decide)
  unfold pL_law_1041
  apply t_B
  · refine x_iinc rfl rfl ?_
    exact rfl
  exact t_goeq (s3 (by rw [show ((6 * k : Nat) : Int) + 6 = ((6 * (k + 1) : Nat) : Int) by omega]; rfl) rfl)
set_option maxRecDepth 10000 in
theorem l_none {L k : Nat} {xs : Nat → Int} (hL : L ≤ 3072) (hx : ∀ j, inR (xs j)) (hk : 6 * k + 6 ≤ L) {I : Nat → Nat → Int} {R : Nat → Nat → Option Nat} {u : Int64} {σ : Sg} (hs : Sok k σ) (hC : CI σ I R) (hR : RI σ I) (h0 : I 0 = xs) (hc : 25 < xs (6 * k) % 32) : ∃ I2 R2 u2 σ', am_ev (am_run am_tb 60) wL_law_18 ([vR 0, vR 3, vR 301, vI (6 * k : Nat)], [], LH L I R u) = some (18 + 2, [vR 0, vR 3, vR 301, vI (6 * (k + 1) : Nat)], [], LH L I2 R2 u2) ∧ Sok (k + 1) σ' ∧ CI σ' I2 R2 ∧ RI σ' I2 ∧ I2 0 = xs := by
  have hm : xs (6 * k) % 32 < 32 := Int.emod_lt_of_pos _ (by decide)
  refine ⟨I, R, u, σ, ?_, Sok_m hs (by omega), hC, hR, h0⟩
  unfold wL_law_18
  apply t_Q
  · unfold pL_law_18
    apply t_B
    · refine x_iload_n rfl ?_
      refine x_aload_n rfl ?_
      refine x_alen (Or.inr tg_0) ?_
      rw [show ln L 0 = L from if_pos rfl]
      refine x_bipush ?_
      refine x_isub ?_
      exact rfl
    exact t_ic_gt_f (by omega)
  apply t_Q
  · unfold pL_law_27
    apply t_S
    refine x_aload_n rfl ?_
    refine x_iload_n rfl ?_
    refine x_ialdv (Or.inr tg_0) (if_pos rfl) (by omega) (show _ = xs (6 * k) by rw [h0, Int.toNat_natCast]) ?_
    refine x_bipush ?_
    refine x_iand (by have := hx (6 * k); omega) ?_
    rw [show xs (6 * k) % (31 + 1) = xs (6 * k) % 32 from rfl]
    exact rfl
  apply t_Q
  · apply t_K
    apply t_Qs
    apply t_Ks
    · apply t_Qs
      apply t_Ks
      · apply t_Qs
        apply t_Ks
        · apply t_Qs
          apply t_Ks
          · apply t_Qs
            apply t_Ks
            · apply t_Qs
              apply t_Ks
              · apply t_Qs
                apply t_Ks
                · apply t_Qs
                  apply t_Ks
                  · apply t_Qs
                    apply t_Ks
                    · apply t_Qs
                      apply t_Ks
                      · apply t_Qs
                        apply t_Ks
                        · apply t_Qs
                          apply t_Ks
                          · apply t_Qs
                            apply t_Ks
                            · apply t_Qs
                              apply t_Ks
                              · apply t_Qs
                                apply t_Ks
                                · apply t_Qs
                                  apply t_Ks
                                  · apply t_Qs
                                    apply t_Ks
                                    · apply t_Qs
                                      apply t_Ks
                                      · apply t_Qs
                                        apply t_Ks
                                        · apply t_Qs
                                          apply t_Ks
                                          · apply t_Qs
                                            apply t_Ks
                                            · apply t_Qs
                                              apply t_Ks
                                              · apply t_Qs
                                                apply t_Ks
                                                · apply t_Qs
                                                  apply t_Ks
                                                  · apply t_Qs
                                                    apply t_Ks
                                                    · apply t_Qs
                                                      apply t_Ks
                                                      · unfold pL_law_33
                                                        apply t_B
                                                        · exact rfl
                                                        exact t_swo (by omega)
                                                      · decide
                                                    · decide
                                                  · decide
                                                · decide
                                              · decide
                                            · decide
                                          · decide
                                        · decide
                                      · decide
                                    · decide
                                  · decide
                                · decide
                              · decide
                            · decide
                          · decide
                        · decide
                      · decide
                    · decide
                  · decide
                · decide
              · decide
            · decide
          · decide
        · decide
      · decide
    · decide
  unfold pL_law_1041
  apply t_B
  · refine x_iinc rfl rfl ?_
    exact rfl
  exact t_goeq (s3 (by rw [show ((6 * k : Nat) : Int) + 6 = ((6 * (k + 1) : Nat) : Int) by omega]; rfl) rfl)
