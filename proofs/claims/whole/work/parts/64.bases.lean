/-! The reference: basis, based, stairs, within. Written by wip/whole/gen_64.py. -/
theorem Lay_c {o : Int} {I J : Nat → Nat → Int} {q : Int} {n : Nat} {G : Nat → Nat → Int} (h : Lay o I q n G) (hF : Fw I J) (h1 : J 301 17 = I 301 17) (h2 : J 301 16 = I 301 16) (h3 : ∀ r, r < 24 → ∀ v, v < 496 → gro J r v = gro I r v) : Lay o J q n G := by
  cases h with
  | inl h =>
    refine Or.inl ⟨h1.trans h.1, ⟨h2.trans h.2.1.1, fun j hj v hv => ?_⟩, h.2.2⟩
    have := h.2.2.1
    rw [h3 j (by omega) v hv]
    exact h.2.1.2 j hj v hv
  | inr h =>
    refine Or.inr ⟨by rw [h1]; exact h.1, ?_⟩
    rw [inF_c (Fw_fe hF)]
    exact h.2
/-- how a call by a basis leaves things -/
def Lad (I J : Nat → Nat → Int) (q : Int) (n : Nat) (G : Nat → Nat → Int) : Prop := Fw I J ∧ Rws J n G ∧ J 301 17 = q
theorem Lad_Fw {I J K : Nat → Nat → Int} {q : Int} {n : Nat} {G : Nat → Nat → Int} (h : Lad I J q n G) (hF : Fw J K) (h1 : K 301 17 = J 301 17) (h2 : K 301 16 = J 301 16) (h3 : ∀ r, r < n → ∀ v, v < 496 → gro K r v = gro J r v) : Lad I K q n G := ⟨Fw_t h.1 hF, ⟨h2.trans h.2.1.1, fun j hj v hv => (h3 j hj v hv).trans (h.2.1.2 j hj v hv)⟩, h1.trans h.2.2⟩
set_option maxRecDepth 10000 in
theorem s_lays2 {d L : Nat} {I : Nat → Nat → Int} {R : Nat → Nat → Option Nat} {u : Int64} (hF : FixR R) (hR : Res I) (hT : Tabs I) (hN : Nr I) {o : Int} (ho : I 302 608 = o) {q : Int} (hq : 1 ≤ q ∧ q ≤ 63) (hl : 0 ≤ I 301 17 ∧ I 301 17 ≤ 63) {n : Nat} {G : Nat → Nat → Int} (hL : Lay o I q n G) : ∃ J, am_run am_tb (d + 8) 199 [vR 301, vI q] (LH L (sro I 24 (fe I 5)) R u) = some ([], LH L J R u) ∧ Lad I J q n G ∧ Gd o n G := by
  have h0 : o = 0 ∨ o = 1 := ho ▸ hN.2
  have hF1 : Fw I (sro I 24 (fe I 5)) := Fw_s (Fw_r hR) (fe_b hN (by decide))
  obtain ⟨J, e, hFJ, hw, h17, hG⟩ := s_lays (d := d) (L := L) (u := u) (I := sro I 24 (fe I 5)) hF hF1.2.2.2 (Fw_T hF1 hT) (Fw_N hF1 hN) (o := o) ho h0 hq hl (Lay_c hL hF1 rfl rfl (fun r hr v hv => gro_n hv (by omega)))
  exact ⟨J, e, ⟨Fw_t hF1 hFJ, hw, h17⟩, hG⟩
set_option maxRecDepth 10000 in
theorem s_basis_bad {d L : Nat} {I : Nat → Nat → Int} {R : Nat → Nat → Option Nat} {u : Int64} (hF : FixR R) {q : Int} (hq : inR q) (hb : ¬ ((1 ≤ q ∧ q ≤ 63))) : am_run am_tb (d + 4) 201 [vR 301, vI q] (LH L I R u) = some ([vI (-20002)], LH L (rf I 0) R u) := by
  refine run_of tb_X12_basis (Nat.le_of_ble_eq_true rfl) ?_
  show ∃ ls', am_ev (am_run am_tb (d + 3)) tX12_basis ([vR 301, vI q], [], (LH L I R u)) = some (1, ls', [vI (-20002)], LH L (rf I 0) R u)
  have c0 : ¬ (1 ≤ q ∧ q ≤ 63) := by omega
  apply Exists.intro
  unfold tX12_basis
  apply t_Q
  · apply t_S
    refine x_iload_n rfl ?_
    refine x_S1i (by decide) (Nat.le_of_ble_eq_true rfl) (ret_f c0 (s_isSet (d := d + 1) hq)) ?_
    exact rfl
  apply t_Qs
  apply t_Ks
  · apply t_Q
    · apply t_B
      · exact rfl
      exact t_if_ne_f (by omega)
    apply t_B
    · refine x_aload_n rfl ?_
      refine x_V1i tg_301 (Nat.le_of_ble_eq_true rfl) (s_bad (d := d + 2) hF) ?_
      exact rfl
    exact t_ireq (Or.inl rfl) rfl rfl
  · decide
set_option maxRecDepth 10000 in
theorem s_stairs_bad {d L : Nat} {I : Nat → Nat → Int} {R : Nat → Nat → Option Nat} {u : Int64} (hF : FixR R) {q : Int} {m : Int} (hq : inR q) (hm : inR m) (hb : ¬ ((1 ≤ q ∧ q ≤ 63) ∧ (0 ≤ m ∧ m ≤ 20))) : am_run am_tb (d + 4) 203 [vR 301, vI q, vI m] (LH L I R u) = some ([vI (-20002)], LH L (rf I 0) R u) := by
  refine run_of tb_X12_stairs (Nat.le_of_ble_eq_true rfl) ?_
  show ∃ ls', am_ev (am_run am_tb (d + 3)) tX12_stairs ([vR 301, vI q, vI m, vU, vU], [], (LH L I R u)) = some (1, ls', [vI (-20002)], LH L (rf I 0) R u)
  by_cases c0 : 1 ≤ q ∧ q ≤ 63
  case neg =>
    apply Exists.intro
    unfold tX12_stairs
    apply t_Q
    · apply t_S
      refine x_iload_n rfl ?_
      refine x_S1i (by decide) (Nat.le_of_ble_eq_true rfl) (ret_f c0 (s_isSet (d := d + 1) hq)) ?_
      exact rfl
    apply t_Qs
    apply t_Ks
    · apply t_Q
      · apply t_K
        apply t_Qs
        apply t_B
        · exact rfl
        exact t_if_eq_t (by omega)
      apply t_B
      · refine x_aload_n rfl ?_
        refine x_V1i tg_301 (Nat.le_of_ble_eq_true rfl) (s_bad (d := d + 2) hF) ?_
        exact rfl
      exact t_ireq (Or.inl rfl) rfl rfl
    · decide
  have c1 : ¬ (0 ≤ m ∧ m ≤ 20) := by omega
  apply Exists.intro
  unfold tX12_stairs
  apply t_Q
  · apply t_S
    refine x_iload_n rfl ?_
    refine x_S1i (by decide) (Nat.le_of_ble_eq_true rfl) (ret_t c0 (s_isSet (d := d + 1) hq)) ?_
    exact rfl
  apply t_Qs
  apply t_Ks
  · apply t_Q
    · apply t_Ks
      · apply t_Q
        · apply t_B
          · exact rfl
          exact t_if_eq_f (by omega)
        apply t_B
        · refine x_iload_n rfl ?_
          refine x_iconst ?_
          refine x_bipush ?_
          refine x_S3i (by decide) (Nat.le_of_ble_eq_true rfl) (ret_f c1 (s_in (d := d + 2) hm (by omega) (by omega))) ?_
          exact rfl
        exact t_if_ne_f (by omega)
      · decide
    apply t_B
    · refine x_aload_n rfl ?_
      refine x_V1i tg_301 (Nat.le_of_ble_eq_true rfl) (s_bad (d := d + 2) hF) ?_
      exact rfl
    exact t_ireq (Or.inl rfl) rfl rfl
  · decide
set_option maxRecDepth 10000 in
theorem s_within_bad {d L : Nat} {I : Nat → Nat → Int} {R : Nat → Nat → Option Nat} {u : Int64} (hF : FixR R) {t : Int} {q : Int} (ht : inR t) (hq : inR q) (hb : ¬ ((0 ≤ t ∧ t ≤ 5) ∧ (1 ≤ q ∧ q ≤ 63))) : am_run am_tb (d + 4) 204 [vR 301, vI t, vI q] (LH L I R u) = some ([vI (-20002)], LH L (rf I 0) R u) := by
  refine run_of tb_X12_within (Nat.le_of_ble_eq_true rfl) ?_
  show ∃ ls', am_ev (am_run am_tb (d + 3)) tX12_within ([vR 301, vI t, vI q], [], (LH L I R u)) = some (1, ls', [vI (-20002)], LH L (rf I 0) R u)
  by_cases c0 : 0 ≤ t ∧ t ≤ 5
  case neg =>
    apply Exists.intro
    unfold tX12_within
    apply t_Q
    · apply t_S
      refine x_iload_n rfl ?_
      refine x_S1i (by decide) (Nat.le_of_ble_eq_true rfl) (ret_f c0 (s_isOperator (d := d + 1) ht)) ?_
      exact rfl
    apply t_Qs
    apply t_Ks
    · apply t_Q
      · apply t_K
        apply t_Qs
        apply t_B
        · exact rfl
        exact t_if_eq_t (by omega)
      apply t_B
      · refine x_aload_n rfl ?_
        refine x_V1i tg_301 (Nat.le_of_ble_eq_true rfl) (s_bad (d := d + 2) hF) ?_
        exact rfl
      exact t_ireq (Or.inl rfl) rfl rfl
    · decide
  have c1 : ¬ (1 ≤ q ∧ q ≤ 63) := by omega
  apply Exists.intro
  unfold tX12_within
  apply t_Q
  · apply t_S
    refine x_iload_n rfl ?_
    refine x_S1i (by decide) (Nat.le_of_ble_eq_true rfl) (ret_t c0 (s_isOperator (d := d + 1) ht)) ?_
    exact rfl
  apply t_Qs
  apply t_Ks
  · apply t_Q
    · apply t_Ks
      · apply t_Q
        · apply t_B
          · exact rfl
          exact t_if_eq_f (by omega)
        apply t_B
        · refine x_iload_n rfl ?_
          refine x_S1i (by decide) (Nat.le_of_ble_eq_true rfl) (ret_f c1 (s_isSet (d := d + 1) hq)) ?_
          exact rfl
        exact t_if_ne_f (by omega)
      · decide
    apply t_B
    · refine x_aload_n rfl ?_
      refine x_V1i tg_301 (Nat.le_of_ble_eq_true rfl) (s_bad (d := d + 2) hF) ?_
      exact rfl
    exact t_ireq (Or.inl rfl) rfl rfl
  · decide
set_option maxRecDepth 10000 in
theorem s_based_bad {d L : Nat} {I : Nat → Nat → Int} {R : Nat → Nat → Option Nat} {u : Int64} (hF : FixR R) {q k i j : Int} (hq : inR q) (hk : inR k) (hi : inR i) (hj : inR j) (hb : ¬ ((1 ≤ q ∧ q ≤ 63) ∧ 0 ≤ k ∧ (0 ≤ i ∧ i ≤ 15) ∧ (0 ≤ j ∧ j ≤ 15))) : am_run am_tb (d + 4) 202 [vR 301, vI q, vI k, vI i, vI j] (LH L I R u) = some ([vI (-20002)], LH L (rf I 0) R u) := by
  refine run_of tb_X12_based (Nat.le_of_ble_eq_true rfl) ?_
  show ∃ ls', am_ev (am_run am_tb (d + 3)) tX12_based ([vR 301, vI q, vI k, vI i, vI j], [], (LH L I R u)) = some (1, ls', [vI (-20002)], LH L (rf I 0) R u)
  by_cases c0 : 1 ≤ q ∧ q ≤ 63
  case neg =>
    apply Exists.intro
    unfold tX12_based
    apply t_Q
    · apply t_S
      refine x_iload_n rfl ?_
      refine x_S1i (by decide) (Nat.le_of_ble_eq_true rfl) (ret_f c0 (s_isSet (d := d + 1) hq)) ?_
      exact rfl
    apply t_Qs
    apply t_Ks
    · apply t_Q
      · apply t_K
        apply t_Qs
        apply t_B
        · exact rfl
        exact t_if_eq_t (by omega)
      apply t_B
      · refine x_aload_n rfl ?_
        refine x_V1i tg_301 (Nat.le_of_ble_eq_true rfl) (s_bad (d := d + 2) hF) ?_
        exact rfl
      exact t_ireq (Or.inl rfl) rfl rfl
    · decide
  by_cases c1 : 0 ≤ k
  case neg =>
    apply Exists.intro
    unfold tX12_based
    apply t_Q
    · apply t_S
      refine x_iload_n rfl ?_
      refine x_S1i (by decide) (Nat.le_of_ble_eq_true rfl) (ret_t c0 (s_isSet (d := d + 1) hq)) ?_
      exact rfl
    apply t_Qs
    apply t_Ks
    · apply t_Q
      · apply t_K
        apply t_Q
        · apply t_B
          · exact rfl
          exact t_if_eq_f (by omega)
        apply t_Qs
        apply t_B
        · refine x_iload_n rfl ?_
          exact rfl
        exact t_if_lt_t (by omega)
      apply t_B
      · refine x_aload_n rfl ?_
        refine x_V1i tg_301 (Nat.le_of_ble_eq_true rfl) (s_bad (d := d + 2) hF) ?_
        exact rfl
      exact t_ireq (Or.inl rfl) rfl rfl
    · decide
  by_cases c2 : 0 ≤ i ∧ i ≤ 15
  case neg =>
    apply Exists.intro
    unfold tX12_based
    apply t_Q
    · apply t_S
      refine x_iload_n rfl ?_
      refine x_S1i (by decide) (Nat.le_of_ble_eq_true rfl) (ret_t c0 (s_isSet (d := d + 1) hq)) ?_
      exact rfl
    apply t_Qs
    apply t_Ks
    · apply t_Q
      · apply t_K
        apply t_Q
        · apply t_B
          · exact rfl
          exact t_if_eq_f (by omega)
        apply t_Q
        · apply t_B
          · refine x_iload_n rfl ?_
            exact rfl
          exact t_if_lt_f (by omega)
        apply t_Qs
        apply t_B
        · refine x_iload_n rfl ?_
          refine x_iconst ?_
          refine x_bipush ?_
          refine x_S3i (by decide) (Nat.le_of_ble_eq_true rfl) (ret_f c2 (s_in (d := d + 2) hi (by omega) (by omega))) ?_
          exact rfl
        exact t_if_eq_t (by omega)
      apply t_B
      · refine x_aload_n rfl ?_
        refine x_V1i tg_301 (Nat.le_of_ble_eq_true rfl) (s_bad (d := d + 2) hF) ?_
        exact rfl
      exact t_ireq (Or.inl rfl) rfl rfl
    · decide
  have c3 : ¬ (0 ≤ j ∧ j ≤ 15) := by omega
  apply Exists.intro
  unfold tX12_based
  apply t_Q
  · apply t_S
    refine x_iload_n rfl ?_
    refine x_S1i (by decide) (Nat.le_of_ble_eq_true rfl) (ret_t c0 (s_isSet (d := d + 1) hq)) ?_
    exact rfl
  apply t_Qs
  apply t_Ks
  · apply t_Q
    · apply t_Ks
      · apply t_Q
        · apply t_B
          · exact rfl
          exact t_if_eq_f (by omega)
        apply t_Q
        · apply t_B
          · refine x_iload_n rfl ?_
            exact rfl
          exact t_if_lt_f (by omega)
        apply t_Q
        · apply t_B
          · refine x_iload_n rfl ?_
            refine x_iconst ?_
            refine x_bipush ?_
            refine x_S3i (by decide) (Nat.le_of_ble_eq_true rfl) (ret_t c2 (s_in (d := d + 2) hi (by omega) (by omega))) ?_
            exact rfl
          exact t_if_eq_f (by omega)
        apply t_B
        · refine x_iload rfl ?_
          refine x_iconst ?_
          refine x_bipush ?_
          refine x_S3i (by decide) (Nat.le_of_ble_eq_true rfl) (ret_f c3 (s_in (d := d + 2) hj (by omega) (by omega))) ?_
          exact rfl
        exact t_if_ne_f (by omega)
      · decide
    apply t_B
    · refine x_aload_n rfl ?_
      refine x_V1i tg_301 (Nat.le_of_ble_eq_true rfl) (s_bad (d := d + 2) hF) ?_
      exact rfl
    exact t_ireq (Or.inl rfl) rfl rfl
  · decide
set_option maxRecDepth 10000 in
theorem s_basis_no {d L : Nat} {I : Nat → Nat → Int} {R : Nat → Nat → Option Nat} {u : Int64} (hF : FixR R) (hR : Res I) (hT : Tabs I) (hN : Nr I) {q : Int} (hq : 1 ≤ q ∧ q ≤ 63) (hs : smF I q 6 = 0) : am_run am_tb (d + 9) 201 [vR 301, vI q] (LH L I R u) = some ([vI (-20003)], LH L (rf (sro I 24 (fe I 5)) 1) R u) := by
  refine run_of tb_X12_basis (Nat.le_of_ble_eq_true rfl) ?_
  show ∃ ls', am_ev (am_run am_tb (d + 8)) tX12_basis ([vR 301, vI q], [], (LH L I R u)) = some (1, ls', [vI (-20003)], LH L (rf (sro I 24 (fe I 5)) 1) R u)
  apply Exists.intro
  unfold tX12_basis
  apply t_Q
  · apply t_S
    refine x_iload_n rfl ?_
    refine x_S1i (by decide) (Nat.le_of_ble_eq_true rfl) (ret_t (show 1 ≤ q ∧ q ≤ 63 from by omega) (s_isSet (d := d + 6) (by omega))) ?_
    exact rfl
  apply t_Q
  · apply t_K
    apply t_Qs
    apply t_B
    · exact rfl
    exact t_if_ne_t (by omega)
  apply t_Q
  · apply t_S
    refine x_aload_n rfl ?_
    refine x_iload_n rfl ?_
    refine x_V2i tg_301 (Nat.le_of_ble_eq_true rfl) ((s_isSmall (d := d + 5) (L := L) (u := u) (I := I) hF hR hT hN (q := q) (by omega)).trans (by rw [hs])) ?_
    exact rfl
  apply t_Qs
  apply t_Ks
  · apply t_Q
    · apply t_B
      · exact rfl
      exact t_if_ne_f (by omega)
    apply t_B
    · refine x_aload_n rfl ?_
      refine x_V1i tg_301 (Nat.le_of_ble_eq_true rfl) (s_no (d := d + 7) hF) ?_
      exact rfl
    exact t_ireq (Or.inl rfl) rfl rfl
  · decide
set_option maxRecDepth 10000 in
theorem s_based_no {d L : Nat} {I : Nat → Nat → Int} {R : Nat → Nat → Option Nat} {u : Int64} (hF : FixR R) (hR : Res I) (hT : Tabs I) (hN : Nr I) {q k : Int} {i j : Nat} (hk : 0 ≤ k ∧ inR k) (hi : i ≤ 15) (hj : j ≤ 15) (hq : 1 ≤ q ∧ q ≤ 63) (hs : smF I q 6 = 0) : am_run am_tb (d + 9) 202 [vR 301, vI q, vI k, vI i, vI j] (LH L I R u) = some ([vI (-20003)], LH L (rf (sro I 24 (fe I 5)) 1) R u) := by
  refine run_of tb_X12_based (Nat.le_of_ble_eq_true rfl) ?_
  show ∃ ls', am_ev (am_run am_tb (d + 8)) tX12_based ([vR 301, vI q, vI k, vI i, vI j], [], (LH L I R u)) = some (1, ls', [vI (-20003)], LH L (rf (sro I 24 (fe I 5)) 1) R u)
  apply Exists.intro
  unfold tX12_based
  apply t_Q
  · apply t_S
    refine x_iload_n rfl ?_
    refine x_S1i (by decide) (Nat.le_of_ble_eq_true rfl) (ret_t (show 1 ≤ q ∧ q ≤ 63 from by omega) (s_isSet (d := d + 6) (by omega))) ?_
    exact rfl
  apply t_Q
  · apply t_K
    apply t_Qs
    apply t_Ks
    · apply t_Q
      · apply t_B
        · exact rfl
        exact t_if_eq_f (by omega)
      apply t_Q
      · apply t_B
        · refine x_iload_n rfl ?_
          exact rfl
        exact t_if_lt_f (by omega)
      apply t_Q
      · apply t_B
        · refine x_iload_n rfl ?_
          refine x_iconst ?_
          refine x_bipush ?_
          refine x_S3i (by decide) (Nat.le_of_ble_eq_true rfl) (ret_t (show 0 ≤ (i : Int) ∧ (i : Int) ≤ 15 from by omega) (s_in (d := d + 7) (by omega) (by omega) (by omega))) ?_
          exact rfl
        exact t_if_eq_f (by omega)
      apply t_B
      · refine x_iload rfl ?_
        refine x_iconst ?_
        refine x_bipush ?_
        refine x_S3i (by decide) (Nat.le_of_ble_eq_true rfl) (ret_t (show 0 ≤ (j : Int) ∧ (j : Int) ≤ 15 from by omega) (s_in (d := d + 7) (by omega) (by omega) (by omega))) ?_
        exact rfl
      exact t_if_ne_t (by omega)
    · decide
  apply t_Q
  · apply t_S
    refine x_aload_n rfl ?_
    refine x_iload_n rfl ?_
    refine x_V2i tg_301 (Nat.le_of_ble_eq_true rfl) ((s_isSmall (d := d + 5) (L := L) (u := u) (I := I) hF hR hT hN (q := q) (by omega)).trans (by rw [hs])) ?_
    exact rfl
  apply t_Qs
  apply t_Ks
  · apply t_Q
    · apply t_B
      · exact rfl
      exact t_if_ne_f (by omega)
    apply t_B
    · refine x_aload_n rfl ?_
      refine x_V1i tg_301 (Nat.le_of_ble_eq_true rfl) (s_no (d := d + 7) hF) ?_
      exact rfl
    exact t_ireq (Or.inl rfl) rfl rfl
  · decide
set_option maxRecDepth 10000 in
theorem s_stairs_no {d L : Nat} {I : Nat → Nat → Int} {R : Nat → Nat → Option Nat} {u : Int64} (hF : FixR R) (hR : Res I) (hT : Tabs I) (hN : Nr I) {q : Int} {m : Nat} (hm : m ≤ 20) (hq : 1 ≤ q ∧ q ≤ 63) (hs : smF I q 6 = 0) : am_run am_tb (d + 9) 203 [vR 301, vI q, vI m] (LH L I R u) = some ([vI (-20003)], LH L (rf (sro I 24 (fe I 5)) 1) R u) := by
  refine run_of tb_X12_stairs (Nat.le_of_ble_eq_true rfl) ?_
  show ∃ ls', am_ev (am_run am_tb (d + 8)) tX12_stairs ([vR 301, vI q, vI m, vU, vU], [], (LH L I R u)) = some (1, ls', [vI (-20003)], LH L (rf (sro I 24 (fe I 5)) 1) R u)
  apply Exists.intro
  unfold tX12_stairs
  apply t_Q
  · apply t_S
    refine x_iload_n rfl ?_
    refine x_S1i (by decide) (Nat.le_of_ble_eq_true rfl) (ret_t (show 1 ≤ q ∧ q ≤ 63 from by omega) (s_isSet (d := d + 6) (by omega))) ?_
    exact rfl
  apply t_Q
  · apply t_K
    apply t_Qs
    apply t_Ks
    · apply t_Q
      · apply t_B
        · exact rfl
        exact t_if_eq_f (by omega)
      apply t_B
      · refine x_iload_n rfl ?_
        refine x_iconst ?_
        refine x_bipush ?_
        refine x_S3i (by decide) (Nat.le_of_ble_eq_true rfl) (ret_t (show 0 ≤ (m : Int) ∧ (m : Int) ≤ 20 from by omega) (s_in (d := d + 7) (by omega) (by omega) (by omega))) ?_
        exact rfl
      exact t_if_ne_t (by omega)
    · decide
  apply t_Q
  · apply t_S
    refine x_aload_n rfl ?_
    refine x_iload_n rfl ?_
    refine x_V2i tg_301 (Nat.le_of_ble_eq_true rfl) ((s_isSmall (d := d + 5) (L := L) (u := u) (I := I) hF hR hT hN (q := q) (by omega)).trans (by rw [hs])) ?_
    exact rfl
  apply t_Qs
  apply t_Ks
  · apply t_Q
    · apply t_B
      · exact rfl
      exact t_if_ne_f (by omega)
    apply t_B
    · refine x_aload_n rfl ?_
      refine x_V1i tg_301 (Nat.le_of_ble_eq_true rfl) (s_no (d := d + 7) hF) ?_
      exact rfl
    exact t_ireq (Or.inl rfl) rfl rfl
  · decide
set_option maxRecDepth 10000 in
theorem s_within_no {d L : Nat} {I : Nat → Nat → Int} {R : Nat → Nat → Option Nat} {u : Int64} (hF : FixR R) (hR : Res I) (hT : Tabs I) (hN : Nr I) {q : Int} {t : Nat} (ht : t < 6) (hq : 1 ≤ q ∧ q ≤ 63) (hs : smF I q 6 = 0) : am_run am_tb (d + 9) 204 [vR 301, vI t, vI q] (LH L I R u) = some ([vI (-20003)], LH L (rf (sro I 24 (fe I 5)) 1) R u) := by
  refine run_of tb_X12_within (Nat.le_of_ble_eq_true rfl) ?_
  show ∃ ls', am_ev (am_run am_tb (d + 8)) tX12_within ([vR 301, vI t, vI q], [], (LH L I R u)) = some (1, ls', [vI (-20003)], LH L (rf (sro I 24 (fe I 5)) 1) R u)
  apply Exists.intro
  unfold tX12_within
  apply t_Q
  · apply t_S
    refine x_iload_n rfl ?_
    refine x_S1i (by decide) (Nat.le_of_ble_eq_true rfl) (ret_t (show 0 ≤ (t : Int) ∧ (t : Int) ≤ 5 from by omega) (s_isOperator (d := d + 6) (by omega))) ?_
    exact rfl
  apply t_Q
  · apply t_K
    apply t_Qs
    apply t_Ks
    · apply t_Q
      · apply t_B
        · exact rfl
        exact t_if_eq_f (by omega)
      apply t_B
      · refine x_iload_n rfl ?_
        refine x_S1i (by decide) (Nat.le_of_ble_eq_true rfl) (ret_t (show 1 ≤ q ∧ q ≤ 63 from by omega) (s_isSet (d := d + 6) (by omega))) ?_
        exact rfl
      exact t_if_ne_t (by omega)
    · decide
  apply t_Q
  · apply t_S
    refine x_aload_n rfl ?_
    refine x_iload_n rfl ?_
    refine x_V2i tg_301 (Nat.le_of_ble_eq_true rfl) ((s_isSmall (d := d + 5) (L := L) (u := u) (I := I) hF hR hT hN (q := q) (by omega)).trans (by rw [hs])) ?_
    exact rfl
  apply t_Qs
  apply t_Ks
  · apply t_Q
    · apply t_B
      · exact rfl
      exact t_if_ne_f (by omega)
    apply t_B
    · refine x_aload_n rfl ?_
      refine x_V1i tg_301 (Nat.le_of_ble_eq_true rfl) (s_no (d := d + 7) hF) ?_
      exact rfl
    exact t_ireq (Or.inl rfl) rfl rfl
  · decide
set_option maxRecDepth 10000 in
theorem s_basis_ok {d L : Nat} {I : Nat → Nat → Int} {R : Nat → Nat → Option Nat} {u : Int64} (hF : FixR R) (hR : Res I) (hT : Tabs I) (hN : Nr I) {q : Int} {o : Int} (ho : I 302 608 = o) (hq : 1 ≤ q ∧ q ≤ 63) (hs : smF I q 6 = 1) (hl : 0 ≤ I 301 17 ∧ I 301 17 ≤ 63) {n : Nat} {G : Nat → Nat → Int} (hL : Lay o I q n G) : ∃ J, am_run am_tb (d + 9) 201 [vR 301, vI q] (LH L I R u) = some ([vI (n)], LH L J R u) ∧ Lad I J q n G := by
  have h0 : o = 0 ∨ o = 1 := ho ▸ hN.2
  obtain ⟨J, hla, hLJ, hG⟩ := s_lays2 (d := d) (L := L) (u := u) (I := I) hF hR hT hN ho hq hl hL
  have h23 := hG.1
  skip
  refine ⟨J, ?_, hLJ⟩
  refine run_of tb_X12_basis (Nat.le_of_ble_eq_true rfl) ?_
  show ∃ ls', am_ev (am_run am_tb (d + 8)) tX12_basis ([vR 301, vI q], [], LH L I R u) = some (1, ls', [vI (n)], LH L (J) R u)
  apply Exists.intro
  unfold tX12_basis
  apply t_Q
  · apply t_S
    refine x_iload_n rfl ?_
    refine x_S1i (by decide) (Nat.le_of_ble_eq_true rfl) (ret_t (show 1 ≤ q ∧ q ≤ 63 from by omega) (s_isSet (d := d + 6) (by omega))) ?_
    exact rfl
  apply t_Q
  · apply t_K
    apply t_Qs
    apply t_B
    · exact rfl
    exact t_if_ne_t (by omega)
  apply t_Q
  · apply t_S
    refine x_aload_n rfl ?_
    refine x_iload_n rfl ?_
    refine x_V2i tg_301 (Nat.le_of_ble_eq_true rfl) ((s_isSmall (d := d + 5) (L := L) (u := u) (I := I) hF hR hT hN (q := q) (by omega)).trans (by rw [hs])) ?_
    exact rfl
  apply t_Q
  · apply t_K
    apply t_Qs
    apply t_B
    · exact rfl
    exact t_if_ne_t (by omega)
  apply t_B
  · refine x_aload_n rfl ?_
    refine x_iload_n rfl ?_
    refine x_V2v tg_301 (Nat.le_of_ble_eq_true rfl) (hla) ?_
    refine x_aload_n rfl ?_
    refine x_giv tg_301 rfl (show _ = ((n : Nat) : Int) from hLJ.2.1.1) ?_
    exact rfl
  exact t_ireq (Or.inl rfl) rfl rfl
set_option maxRecDepth 10000 in
theorem s_based_ok {d L : Nat} {I : Nat → Nat → Int} {R : Nat → Nat → Option Nat} {u : Int64} (hF : FixR R) (hR : Res I) (hT : Tabs I) (hN : Nr I) {q k : Int} {i j : Nat} (hk : 0 ≤ k ∧ inR k) (hi : i ≤ 15) (hj : j ≤ 15) {o : Int} (ho : I 302 608 = o) (hq : 1 ≤ q ∧ q ≤ 63) (hs : smF I q 6 = 1) (hl : 0 ≤ I 301 17 ∧ I 301 17 ≤ 63) {n : Nat} {G : Nat → Nat → Int} (hL : Lay o I q n G) : ∃ J, am_run am_tb (d + 9) 202 [vR 301, vI q, vI k, vI i, vI j] (LH L I R u) = some ([vI (if k < n then tl (G k.toNat (pl i j)) else 0)], LH L J R u) ∧ Lad I J q n G := by
  have h0 : o = 0 ∨ o = 1 := ho ▸ hN.2
  obtain ⟨J, hla, hLJ, hG⟩ := s_lays2 (d := d) (L := L) (u := u) (I := I) hF hR hT hN ho hq hl hL
  have h23 := hG.1
  skip
  refine ⟨J, ?_, hLJ⟩
  refine run_of tb_X12_based (Nat.le_of_ble_eq_true rfl) ?_
  show ∃ ls', am_ev (am_run am_tb (d + 8)) tX12_based ([vR 301, vI q, vI k, vI i, vI j], [], LH L I R u) = some (1, ls', [vI (if k < n then tl (G k.toNat (pl i j)) else 0)], LH L (J) R u)
  by_cases c : k < n
  · have hp : pl i j < 496 := pl_496 (by omega)
    have hv : gro J k.toNat (pl i j) = G k.toNat (pl i j) := hLJ.2.1.2 k.toNat (by omega) (pl i j) hp
    have hvb := (hG.2 k.toNat (by omega)).1 (pl i j)
    rw [if_pos c]
    apply Exists.intro
    unfold tX12_based
    apply t_Q
    · apply t_S
      refine x_iload_n rfl ?_
      refine x_S1i (by decide) (Nat.le_of_ble_eq_true rfl) (ret_t (show 1 ≤ q ∧ q ≤ 63 from by omega) (s_isSet (d := d + 6) (by omega))) ?_
      exact rfl
    apply t_Q
    · apply t_K
      apply t_Qs
      apply t_Ks
      · apply t_Q
        · apply t_B
          · exact rfl
          exact t_if_eq_f (by omega)
        apply t_Q
        · apply t_B
          · refine x_iload_n rfl ?_
            exact rfl
          exact t_if_lt_f (by omega)
        apply t_Q
        · apply t_B
          · refine x_iload_n rfl ?_
            refine x_iconst ?_
            refine x_bipush ?_
            refine x_S3i (by decide) (Nat.le_of_ble_eq_true rfl) (ret_t (show 0 ≤ (i : Int) ∧ (i : Int) ≤ 15 from by omega) (s_in (d := d + 7) (by omega) (by omega) (by omega))) ?_
            exact rfl
          exact t_if_eq_f (by omega)
        apply t_B
        · refine x_iload rfl ?_
          refine x_iconst ?_
          refine x_bipush ?_
          refine x_S3i (by decide) (Nat.le_of_ble_eq_true rfl) (ret_t (show 0 ≤ (j : Int) ∧ (j : Int) ≤ 15 from by omega) (s_in (d := d + 7) (by omega) (by omega) (by omega))) ?_
          exact rfl
        exact t_if_ne_t (by omega)
      · decide
    apply t_Q
    · apply t_S
      refine x_aload_n rfl ?_
      refine x_iload_n rfl ?_
      refine x_V2i tg_301 (Nat.le_of_ble_eq_true rfl) ((s_isSmall (d := d + 5) (L := L) (u := u) (I := I) hF hR hT hN (q := q) (by omega)).trans (by rw [hs])) ?_
      exact rfl
    apply t_Q
    · apply t_K
      apply t_Qs
      apply t_B
      · exact rfl
      exact t_if_ne_t (by omega)
    apply t_Q
    · apply t_S
      refine x_aload_n rfl ?_
      refine x_iload_n rfl ?_
      refine x_V2v tg_301 (Nat.le_of_ble_eq_true rfl) (hla) ?_
      refine x_iload_n rfl ?_
      refine x_aload_n rfl ?_
      refine x_giv tg_301 rfl (show _ = ((n : Nat) : Int) from hLJ.2.1.1) ?_
      exact rfl
    apply t_Q
    · apply t_K
      apply t_Qs
      apply t_Ks
      · apply t_Q
        · apply t_B
          · exact rfl
          exact t_ic_ge_f (by omega)
        apply t_B
        · refine x_aload_n rfl ?_
          refine x_gr tg_301 rfl (fx_301_6 hF) ?_
          refine x_sipush ?_
          refine x_iload_n rfl ?_
          refine x_imul ?_
          refine x_iload_n rfl ?_
          refine x_iload rfl ?_
          refine x_S2i (by decide) (Nat.le_of_ble_eq_true rfl) (s_word (d := d + 7) (a := i) (b := j) rfl rfl (by omega) (by omega)) ?_
          refine x_iadd ?_
          refine x_wld k.toNat (pl i j) ⟨by omega, by omega, hp⟩ hv ?_
          refine x_S1i (by decide) (Nat.le_of_ble_eq_true rfl) (s_tell (d := d + 7) (v := G k.toNat (pl i j)) (by omega)) ?_
          exact rfl
        exact t_goto
      · decide
    apply t_B
    · exact rfl
    exact t_ireq (Or.inl rfl) rfl rfl
  · rw [if_neg c]
    apply Exists.intro
    unfold tX12_based
    apply t_Q
    · apply t_S
      refine x_iload_n rfl ?_
      refine x_S1i (by decide) (Nat.le_of_ble_eq_true rfl) (ret_t (show 1 ≤ q ∧ q ≤ 63 from by omega) (s_isSet (d := d + 6) (by omega))) ?_
      exact rfl
    apply t_Q
    · apply t_K
      apply t_Qs
      apply t_Ks
      · apply t_Q
        · apply t_B
          · exact rfl
          exact t_if_eq_f (by omega)
        apply t_Q
        · apply t_B
          · refine x_iload_n rfl ?_
            exact rfl
          exact t_if_lt_f (by omega)
        apply t_Q
        · apply t_B
          · refine x_iload_n rfl ?_
            refine x_iconst ?_
            refine x_bipush ?_
            refine x_S3i (by decide) (Nat.le_of_ble_eq_true rfl) (ret_t (show 0 ≤ (i : Int) ∧ (i : Int) ≤ 15 from by omega) (s_in (d := d + 7) (by omega) (by omega) (by omega))) ?_
            exact rfl
          exact t_if_eq_f (by omega)
        apply t_B
        · refine x_iload rfl ?_
          refine x_iconst ?_
          refine x_bipush ?_
          refine x_S3i (by decide) (Nat.le_of_ble_eq_true rfl) (ret_t (show 0 ≤ (j : Int) ∧ (j : Int) ≤ 15 from by omega) (s_in (d := d + 7) (by omega) (by omega) (by omega))) ?_
          exact rfl
        exact t_if_ne_t (by omega)
      · decide
    apply t_Q
    · apply t_S
      refine x_aload_n rfl ?_
      refine x_iload_n rfl ?_
      refine x_V2i tg_301 (Nat.le_of_ble_eq_true rfl) ((s_isSmall (d := d + 5) (L := L) (u := u) (I := I) hF hR hT hN (q := q) (by omega)).trans (by rw [hs])) ?_
      exact rfl
    apply t_Q
    · apply t_K
      apply t_Qs
      apply t_B
      · exact rfl
      exact t_if_ne_t (by omega)
    apply t_Q
    · apply t_S
      refine x_aload_n rfl ?_
      refine x_iload_n rfl ?_
      refine x_V2v tg_301 (Nat.le_of_ble_eq_true rfl) (hla) ?_
      refine x_iload_n rfl ?_
      refine x_aload_n rfl ?_
      refine x_giv tg_301 rfl (show _ = ((n : Nat) : Int) from hLJ.2.1.1) ?_
      exact rfl
    apply t_Q
    · apply t_Ks
      · apply t_Q
        · apply t_K
          apply t_Qs
          apply t_B
          · exact rfl
          exact t_ic_ge_t (by omega)
        apply t_S
        refine x_iconst ?_
        exact rfl
      · decide
    apply t_B
    · exact rfl
    exact t_ireq (Or.inl rfl) rfl rfl
/-- how many words of a degree no lead divides -/
def stF (ld : Nat → Nat) (b m : Nat) : Nat → Nat
  | 0 => 0
  | k + 1 => if fbl ld b (pl (m - k) k) = b then stF ld b m k + 1 else stF ld b m k
theorem stF_le (ld : Nat → Nat) (b m k : Nat) : stF ld b m k ≤ k := by
  induction k with
  | zero => exact Nat.le_refl _
  | succ k ih => show (if fbl ld b (pl (m - k) k) = b then stF ld b m k + 1 else stF ld b m k) ≤ k + 1; split <;> omega
set_option maxRecDepth 10000 in
theorem lp_stairs {d L : Nat} {I : Nat → Nat → Int} {R : Nat → Nat → Option Nat} {u : Int64} (hF : FixR R) (hT : Tabs I) {ld : Nat → Nat} {b m : Nat} (hb : I 301 13 = b) (hb2 : b ≤ 24) (hl : ∀ j, j < b → I 313 j = (ld j : Nat) ∧ ld j < 496) (hm : m ≤ 20) {q : Int} : am_lp (am_ev (am_run am_tb (d + 2)) wX12_stairs_56) 56 am_F ([vR 301, vI q, vI m, vI 0, vI 0], [], LH L I R u) = some (98, ([vR 301, vI q, vI m, vI (stF ld b m (m + 1) : Nat), vI ((m + 1 : Nat) : Int)], [], LH L I R u)) := by
  skip
  refine lp_up0 (fun k => ([vR 301, vI q, vI m, vI (stF ld b m k : Nat), vI k], [], LH L I R u)) (m + 1) rfl (ltF (by first | decide | omega)) (by show ¬ 98 = 56 + 2; decide) (fun k hk => ?_) ?_
  · have hp : pl (m - k) k < 496 := pl_496 (by omega)
    have hle := fbl_le ld b (pl (m - k) k)
    have hst := stF_le ld b m k
    by_cases c : fbl ld b (pl (m - k) k) = b
    · have e1 : stF ld b m (k + 1) = stF ld b m k + 1 := if_pos c
      unfold wX12_stairs_56
      apply t_Q
      · apply t_B
        · refine x_iload rfl ?_
          refine x_iload_n rfl ?_
          exact rfl
        exact t_ic_gt_f (by omega)
      apply t_Q
      · apply t_S
        refine x_iload_n rfl ?_
        refine x_aload_n rfl ?_
        refine x_iload_n rfl ?_
        refine x_iload rfl ?_
        refine x_isub ?_
        refine x_iload rfl ?_
        refine x_S2i (by decide) (Nat.le_of_ble_eq_true rfl) (s_word (d := d + 1) (a := m - k) (b := k) (by omega) rfl (by omega) (by omega)) ?_
        refine x_V2i tg_301 (Nat.le_of_ble_eq_true rfl) (s_firstBelow (d := d) hF hT (ld := ld) hb hb2 hl hp) ?_
        refine x_aload_n rfl ?_
        refine x_giv tg_301 rfl (show _ = (b : Int) from hb) ?_
        exact rfl
      apply t_Q
      · apply t_K
        apply t_Qs
        apply t_Ks
        · apply t_Q
          · apply t_B
            · exact rfl
            exact t_ic_ne_f (by omega)
          apply t_B
          · refine x_iconst ?_
            exact rfl
          exact t_goto
        · decide
      apply t_B
      · refine x_iadd ?_
        refine x_istore_n rfl ?_
        refine x_iinc rfl rfl ?_
        exact rfl
      exact t_goeq (by rw [show ((stF ld b m (k + 1) : Nat) : Int) = ((stF ld b m k : Nat) : Int) + 1 by rw [e1]; omega]; rfl)
    have e1 : stF ld b m (k + 1) = stF ld b m k := if_neg c
    unfold wX12_stairs_56
    apply t_Q
    · apply t_B
      · refine x_iload rfl ?_
        refine x_iload_n rfl ?_
        exact rfl
      exact t_ic_gt_f (by omega)
    apply t_Q
    · apply t_S
      refine x_iload_n rfl ?_
      refine x_aload_n rfl ?_
      refine x_iload_n rfl ?_
      refine x_iload rfl ?_
      refine x_isub ?_
      refine x_iload rfl ?_
      refine x_S2i (by decide) (Nat.le_of_ble_eq_true rfl) (s_word (d := d + 1) (a := m - k) (b := k) (by omega) rfl (by omega) (by omega)) ?_
      refine x_V2i tg_301 (Nat.le_of_ble_eq_true rfl) (s_firstBelow (d := d) hF hT (ld := ld) hb hb2 hl hp) ?_
      refine x_aload_n rfl ?_
      refine x_giv tg_301 rfl (show _ = (b : Int) from hb) ?_
      exact rfl
    apply t_Q
    · apply t_Ks
      · apply t_Q
        · apply t_K
          apply t_Qs
          apply t_B
          · exact rfl
          exact t_ic_ne_t (by omega)
        apply t_S
        refine x_iconst ?_
        exact rfl
      · decide
    apply t_B
    · refine x_iadd ?_
      refine x_istore_n rfl ?_
      refine x_iinc rfl rfl ?_
      exact rfl
    exact t_goeq (by rw [show ((stF ld b m (k + 1) : Nat) : Int) = ((stF ld b m k : Nat) : Int) + 0 by rw [e1]; omega]; rfl)
  · unfold wX12_stairs_56
    apply t_Qs
    apply t_B
    · refine x_iload rfl ?_
      refine x_iload_n rfl ?_
      exact rfl
    exact t_ic_gt_t (by omega)
set_option maxRecDepth 10000 in
theorem s_stairs_ok {d L : Nat} {I : Nat → Nat → Int} {R : Nat → Nat → Option Nat} {u : Int64} (hF : FixR R) (hR : Res I) (hT : Tabs I) (hN : Nr I) {q : Int} {m : Nat} (hm : m ≤ 20) {o : Int} (ho : I 302 608 = o) (hq : 1 ≤ q ∧ q ≤ 63) (hs : smF I q 6 = 1) (hl : 0 ≤ I 301 17 ∧ I 301 17 ≤ 63) {n : Nat} {G : Nat → Nat → Int} (hL : Lay o I q n G) : ∃ J, am_run am_tb (d + 9) 203 [vR 301, vI q, vI m] (LH L I R u) = some ([vI ((stF (fun j => lw o (G j)) n m (m + 1) : Nat))], LH L J R u) ∧ Lad I J q n G := by
  have h0 : o = 0 ∨ o = 1 := ho ▸ hN.2
  obtain ⟨J, hla, hLJ, hG⟩ := s_lays2 (d := d) (L := L) (u := u) (I := I) hF hR hT hN ho hq hl hL
  have h23 := hG.1
  have htk := s_takesBy (d := d + 6) (L := L) (u := u) (I := J) hF (b := -20001) (q := n) (by omega) hLJ.2.1.1 (by omega)
  have hN1 : tkN (-20001) n = n := if_neg (by omega)
  have hB1 : Bys (tkI J (-20001) n) n := ⟨by show ((tkN (-20001) n : Nat) : Int) = _; rw [hN1], fun j hj => by
    show (if j < tkN (-20001) n then tkE (-20001) j else J 312 j) = _
    rw [hN1, if_pos hj]
    exact if_neg (by omega)⟩
  have hLK : Lad I (tkI J (-20001) n) q n G := Lad_Fw hLJ (tk_Fw hLJ.1.2.2.2) rfl rfl (fun _ _ _ _ => rfl)
  generalize tkI J (-20001) n = K at *
  have hRK := hLK.1.2.2.2
  have hTK := Fw_T hLK.1 hT
  have hoK : K 302 608 = o := by rw [hLK.1.1 302 (by decide) (by decide)]; exact ho
  have hlds : ∀ j, j < n → led o (gro K j) = ((fun j => lw o (G j)) j : Nat) ∧ (fun j => lw o (G j)) j < 496 := fun j hj => by
    have h := lw_ok (hG.2 j hj).2
    rw [led_c (hLK.2.1.2 j hj)]
    exact ⟨h.2.1, h.1⟩
  have hfl := s_findsLeads (d := d + 4) (L := L) (u := u) (I := K) hF hRK hTK hoK h0 (rr := fun j => j) (ld := fun j => lw o (G j)) (b := n) hB1.1 (by omega) (fun j hj => ⟨hB1.2 j hj, by omega⟩) hlds
  have hst := stF_le (fun j => lw o (G j)) n m (m + 1)

  refine ⟨flI K (fun j => j) (fun j => lw o (G j)) n, ?_, Lad_Fw hLK ⟨fun a p r => by unfold flI; rw [au_n _ _ (by omega), au_n _ _ (by omega)], ⟨rfl, rfl, rfl⟩, ⟨rfl, rfl⟩, hRK⟩ rfl rfl (fun _ _ _ _ => rfl)⟩
  refine run_of tb_X12_stairs (Nat.le_of_ble_eq_true rfl) ?_
  show ∃ ls', am_ev (am_run am_tb (d + 8)) tX12_stairs ([vR 301, vI q, vI m, vU, vU], [], LH L I R u) = some (1, ls', [vI ((stF (fun j => lw o (G j)) n m (m + 1) : Nat))], LH L (flI K (fun j => j) (fun j => lw o (G j)) n) R u)
  apply Exists.intro
  unfold tX12_stairs
  apply t_Q
  · apply t_S
    refine x_iload_n rfl ?_
    refine x_S1i (by decide) (Nat.le_of_ble_eq_true rfl) (ret_t (show 1 ≤ q ∧ q ≤ 63 from by omega) (s_isSet (d := d + 6) (by omega))) ?_
    exact rfl
  apply t_Q
  · apply t_K
    apply t_Qs
    apply t_Ks
    · apply t_Q
      · apply t_B
        · exact rfl
        exact t_if_eq_f (by omega)
      apply t_B
      · refine x_iload_n rfl ?_
        refine x_iconst ?_
        refine x_bipush ?_
        refine x_S3i (by decide) (Nat.le_of_ble_eq_true rfl) (ret_t (show 0 ≤ (m : Int) ∧ (m : Int) ≤ 20 from by omega) (s_in (d := d + 7) (by omega) (by omega) (by omega))) ?_
        exact rfl
      exact t_if_ne_t (by omega)
    · decide
  apply t_Q
  · apply t_S
    refine x_aload_n rfl ?_
    refine x_iload_n rfl ?_
    refine x_V2i tg_301 (Nat.le_of_ble_eq_true rfl) ((s_isSmall (d := d + 5) (L := L) (u := u) (I := I) hF hR hT hN (q := q) (by omega)).trans (by rw [hs])) ?_
    exact rfl
  apply t_Q
  · apply t_K
    apply t_Qs
    apply t_B
    · exact rfl
    exact t_if_ne_t (by omega)
  apply t_Q
  · apply t_S
    refine x_aload_n rfl ?_
    refine x_iload_n rfl ?_
    refine x_V2v tg_301 (Nat.le_of_ble_eq_true rfl) (hla) ?_
    refine x_aload_n rfl ?_
    refine x_sipush ?_
    refine x_V2v tg_301 (Nat.le_of_ble_eq_true rfl) (htk) ?_
    refine x_aload_n rfl ?_
    refine x_V1v tg_301 (Nat.le_of_ble_eq_true rfl) (hfl) ?_
    refine x_iconst ?_
    refine x_istore_n rfl ?_
    refine x_iconst ?_
    refine x_istore rfl ?_
    exact rfl
  apply t_Q
  · apply t_K
    apply t_W
    exact lp_stairs (d := d + 6) (I := flI K (fun j => j) (fun j => lw o (G j)) n) hF hTK hB1.1 (by omega) (fun j hj => ⟨(congrFun (au_n _ _ (by decide)) j).trans ((congrFun (au_s _ 313 _) j).trans (if_pos hj)), (hlds j hj).2⟩) hm
  apply t_B
  · refine x_iload_n rfl ?_
    exact rfl
  exact t_ireq (Or.inl rfl) rfl rfl
set_option maxRecDepth 10000 in
theorem s_within_ok {d L : Nat} {I : Nat → Nat → Int} {R : Nat → Nat → Option Nat} {u : Int64} (hF : FixR R) (hR : Res I) (hT : Tabs I) (hN : Nr I) {q : Int} {t : Nat} (ht : t < 6) {o : Int} (ho : I 302 608 = o) (hq : 1 ≤ q ∧ q ≤ 63) (hs : smF I q 6 = 1) (hl : 0 ≤ I 301 17 ∧ I 301 17 ≤ 63) {n : Nat} {G : Nat → Nat → Int} (hL : Lay o I q n G) : ∃ J, am_run am_tb (d + 9) 204 [vR 301, vI t, vI q] (LH L I R u) = some ([vI (if led o (nfa o n G (fe I t)) < 0 then 1 else 0)], LH L J R u) ∧ Lad I J q n G := by
  have h0 : o = 0 ∨ o = 1 := ho ▸ hN.2
  obtain ⟨J, hla, hLJ, hG⟩ := s_lays2 (d := d) (L := L) (u := u) (I := I) hF hR hT hN ho hq hl hL
  have h23 := hG.1
  have htk := s_takesBy (d := d + 6) (L := L) (u := u) (I := J) hF (b := -20001) (q := n) (by omega) hLJ.2.1.1 (by omega)
  have hN1 : tkN (-20001) n = n := if_neg (by omega)
  have hB1 : Bys (tkI J (-20001) n) n := ⟨by show ((tkN (-20001) n : Nat) : Int) = _; rw [hN1], fun j hj => by
    show (if j < tkN (-20001) n then tkE (-20001) j else J 312 j) = _
    rw [hN1, if_pos hj]
    exact if_neg (by omega)⟩
  have hLK : Lad I (tkI J (-20001) n) q n G := Lad_Fw hLJ (tk_Fw hLJ.1.2.2.2) rfl rfl (fun _ _ _ _ => rfl)
  generalize tkI J (-20001) n = K at *
  have hRK := hLK.1.2.2.2
  have hTK := Fw_T hLK.1 hT
  have hoK : K 302 608 = o := by rw [hLK.1.1 302 (by decide) (by decide)]; exact ho
  have hfe := s_fetches (d := d + 6) (L := L) (u := u) (I := K) hF (s := t) (row := 24) ht (by omega)
  rw [Fw_fe hLK.1] at hfe
  have hFf : Fw K (sro K 24 (fe I t)) := Fw_s (Fw_r hRK) (fe_b hN ht)
  obtain ⟨P, hrs, hFP, hPr, hP301, hP312, hP25⟩ := s_restsG (d := d + 3) (L := L) (u := u) (I := sro K 24 (fe I t)) hF hFf.2.2.2 (Fw_T hFf hTK) (o := o) hoK h0 (rr := fun j => j) (b := n) hB1.1 (by omega) (fun j hj => ⟨hB1.2 j hj, by omega⟩) (B := G) (fun j hj v hv => (gro_n hv (by omega)).trans (hLK.2.1.2 j hj v hv)) hG.2 (f := fe I t) (fe_b hN ht) (fun k hk => gro_s hk)
  have hFKP := Fw_t hFf hFP
  have hdg := s_degreeIn (d := d + 6) (L := L) (u := u) (I := P) hF hFKP.2.2.2 (Fw_T hFKP hTK) (row := 25) (by omega)
  rw [dgr_c (g := nfa o n G (fe I t)) hP25] at hdg
  have hdb := dgr_b (nfa o n G (fe I t))

  refine ⟨P, ?_, Lad_Fw hLK hFKP (by rw [hP301]; rfl) (by rw [hP301]; rfl) (fun r hr v hv => by rw [hPr r (by omega) (by omega) v hv, gro_n hv (by omega)])⟩
  refine run_of tb_X12_within (Nat.le_of_ble_eq_true rfl) ?_
  show ∃ ls', am_ev (am_run am_tb (d + 8)) tX12_within ([vR 301, vI t, vI q], [], LH L I R u) = some (1, ls', [vI (if led o (nfa o n G (fe I t)) < 0 then 1 else 0)], LH L (P) R u)
  by_cases c : led o (nfa o n G (fe I t)) < 0
  · rw [if_pos c]
    have c2 := dgr_neg.mpr c
    generalize dgr (nfa o n G (fe I t)) = dd at *
    apply Exists.intro
    unfold tX12_within
    apply t_Q
    · apply t_S
      refine x_iload_n rfl ?_
      refine x_S1i (by decide) (Nat.le_of_ble_eq_true rfl) (ret_t (show 0 ≤ (t : Int) ∧ (t : Int) ≤ 5 from by omega) (s_isOperator (d := d + 6) (by omega))) ?_
      exact rfl
    apply t_Q
    · apply t_K
      apply t_Qs
      apply t_Ks
      · apply t_Q
        · apply t_B
          · exact rfl
          exact t_if_eq_f (by omega)
        apply t_B
        · refine x_iload_n rfl ?_
          refine x_S1i (by decide) (Nat.le_of_ble_eq_true rfl) (ret_t (show 1 ≤ q ∧ q ≤ 63 from by omega) (s_isSet (d := d + 6) (by omega))) ?_
          exact rfl
        exact t_if_ne_t (by omega)
      · decide
    apply t_Q
    · apply t_S
      refine x_aload_n rfl ?_
      refine x_iload_n rfl ?_
      refine x_V2i tg_301 (Nat.le_of_ble_eq_true rfl) ((s_isSmall (d := d + 5) (L := L) (u := u) (I := I) hF hR hT hN (q := q) (by omega)).trans (by rw [hs])) ?_
      exact rfl
    apply t_Q
    · apply t_K
      apply t_Qs
      apply t_B
      · exact rfl
      exact t_if_ne_t (by omega)
    apply t_Q
    · apply t_S
      refine x_aload_n rfl ?_
      refine x_iload_n rfl ?_
      refine x_V2v tg_301 (Nat.le_of_ble_eq_true rfl) (hla) ?_
      refine x_aload_n rfl ?_
      refine x_sipush ?_
      refine x_V2v tg_301 (Nat.le_of_ble_eq_true rfl) (htk) ?_
      refine x_aload_n rfl ?_
      refine x_iload_n rfl ?_
      refine x_bipush ?_
      refine x_V3v tg_301 (Nat.le_of_ble_eq_true rfl) (hfe) ?_
      refine x_aload_n rfl ?_
      refine x_bipush ?_
      refine x_V2v tg_301 (Nat.le_of_ble_eq_true rfl) (hrs) ?_
      refine x_aload_n rfl ?_
      refine x_bipush ?_
      refine x_V2i tg_301 (Nat.le_of_ble_eq_true rfl) (hdg) ?_
      exact rfl
    apply t_Q
    · apply t_K
      apply t_Qs
      apply t_Ks
      · apply t_Q
        · apply t_B
          · exact rfl
          exact t_if_ge_f (by omega)
        apply t_B
        · refine x_iconst ?_
          exact rfl
        exact t_goto
      · decide
    apply t_B
    · exact rfl
    exact t_ireq (Or.inl rfl) rfl rfl
  · rw [if_neg c]
    have c2 : ¬ dgr (nfa o n G (fe I t)) < 0 := fun z => c (dgr_neg.mp z)
    generalize dgr (nfa o n G (fe I t)) = dd at *
    apply Exists.intro
    unfold tX12_within
    apply t_Q
    · apply t_S
      refine x_iload_n rfl ?_
      refine x_S1i (by decide) (Nat.le_of_ble_eq_true rfl) (ret_t (show 0 ≤ (t : Int) ∧ (t : Int) ≤ 5 from by omega) (s_isOperator (d := d + 6) (by omega))) ?_
      exact rfl
    apply t_Q
    · apply t_K
      apply t_Qs
      apply t_Ks
      · apply t_Q
        · apply t_B
          · exact rfl
          exact t_if_eq_f (by omega)
        apply t_B
        · refine x_iload_n rfl ?_
          refine x_S1i (by decide) (Nat.le_of_ble_eq_true rfl) (ret_t (show 1 ≤ q ∧ q ≤ 63 from by omega) (s_isSet (d := d + 6) (by omega))) ?_
          exact rfl
        exact t_if_ne_t (by omega)
      · decide
    apply t_Q
    · apply t_S
      refine x_aload_n rfl ?_
      refine x_iload_n rfl ?_
      refine x_V2i tg_301 (Nat.le_of_ble_eq_true rfl) ((s_isSmall (d := d + 5) (L := L) (u := u) (I := I) hF hR hT hN (q := q) (by omega)).trans (by rw [hs])) ?_
      exact rfl
    apply t_Q
    · apply t_K
      apply t_Qs
      apply t_B
      · exact rfl
      exact t_if_ne_t (by omega)
    apply t_Q
    · apply t_S
      refine x_aload_n rfl ?_
      refine x_iload_n rfl ?_
      refine x_V2v tg_301 (Nat.le_of_ble_eq_true rfl) (hla) ?_
      refine x_aload_n rfl ?_
      refine x_sipush ?_
      refine x_V2v tg_301 (Nat.le_of_ble_eq_true rfl) (htk) ?_
      refine x_aload_n rfl ?_
      refine x_iload_n rfl ?_
      refine x_bipush ?_
      refine x_V3v tg_301 (Nat.le_of_ble_eq_true rfl) (hfe) ?_
      refine x_aload_n rfl ?_
      refine x_bipush ?_
      refine x_V2v tg_301 (Nat.le_of_ble_eq_true rfl) (hrs) ?_
      refine x_aload_n rfl ?_
      refine x_bipush ?_
      refine x_V2i tg_301 (Nat.le_of_ble_eq_true rfl) (hdg) ?_
      exact rfl
    apply t_Q
    · apply t_Ks
      · apply t_Q
        · apply t_K
          apply t_Qs
          apply t_B
          · exact rfl
          exact t_if_ge_t (by omega)
        apply t_S
        refine x_iconst ?_
        exact rfl
      · decide
    apply t_B
    · exact rfl
    exact t_ireq (Or.inl rfl) rfl rfl
