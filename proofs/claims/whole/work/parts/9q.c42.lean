/-! The class: within. Written by wip/whole/gen_9q.py. -/
set_option maxRecDepth 10000 in
theorem s11_within_no {d L : Nat} {I : Nat → Nat → Int} {R : Nat → Nat → Option Nat} {u : Int64} (hF : FixR R) (hB : Tbc I) (hS : Sn I) {q : Int} (hq : 0 < q ∧ q < 64) (hH : ¬ Hsb I q 6) {t : Nat} (ht : t < 6) : am_run am_tb (d + 4) 111 [vR 3, vI (t : Nat), vI q] (LH L I R u) = some ([vI (-20003)], LH L (rc I 1) R u) := by
  refine run_of tb_X11_within (Nat.le_of_ble_eq_true rfl) ?_
  show ∃ ls', am_ev (am_run am_tb (d + 3)) tX11_within ([vR 3, vI (t : Nat), vI q, vU, vU], [], (LH L I R u)) = some (1, ls', [vI (-20003)], LH L (rc I 1) R u)
  apply Exists.intro
  unfold tX11_within
  apply t_Q
  · apply t_S
    refine x_iload_n rfl ?_
    refine x_S1i (by decide) (Nat.le_of_ble_eq_true rfl) (ret_t (show 0 ≤ (t : Int) ∧ (t : Int) < 6 by omega) (s11_isOperator (d := d + 2) (by omega))) ?_
    exact rfl
  apply t_Q
  · apply t_K
    apply t_Qs
    apply t_Ks
    · apply t_Q
      · apply t_B
        · exact rfl
        exact t_if_eq_f (by omega)
      apply t_B
      · refine x_iload_n rfl ?_
        refine x_S1i (by decide) (Nat.le_of_ble_eq_true rfl) (ret_t (show 0 < (q : Int) ∧ (q : Int) < 64 by omega) (s11_isSet (d := d + 2) (by omega))) ?_
        exact rfl
      exact t_if_ne_t (by omega)
    · decide
  apply t_Q
  · apply t_S
    refine x_aload_n rfl ?_
    refine x_iload_n rfl ?_
    refine x_V2i tg_3 (Nat.le_of_ble_eq_true rfl) (s11_has_n (d := d) hF hB hS hq hH) ?_
    exact rfl
  apply t_Qs
  apply t_Ks
  · apply t_Q
    · apply t_B
      · exact rfl
      exact t_if_ne_f (by omega)
    apply t_B
    · refine x_aload_n rfl ?_
      refine x_V1i tg_3 (Nat.le_of_ble_eq_true rfl) (s11_no (d := d + 2) hF) ?_
      exact rfl
    exact t_ireq (Or.inl rfl) rfl rfl
  · decide
set_option maxRecDepth 10000 in
theorem lp11_wi {d L : Nat} {I : Nat → Nat → Int} {R : Nat → Nat → Option Nat} {u : Int64} (hF : FixR R) (hB : Tbc I) {o : Int} (h0 : o = 0 ∨ o = 1) {a n : Nat} {lw' : Nat → Nat} {G : Nat → Nat → Int} (ha : Bax R a) (hA : Bac I a n lw' G) (hLd : ∀ k, k < n → led o (G k) = (lw' k : Nat)) {q : Int} {t : Nat} {I1 : Nat → Nat → Int} (h1 : ∀ y, y < 159 ∨ 164 < y → I1 y = I y) (hD0 : Dvc I1 R o 0 (fun j => a + 5 + 2 * j) lw') : ∃ y, am_lp (am_ev (am_run am_tb (d + 4)) wX11_within_62) 62 am_F ([vR 3, vI (t : Nat), vI q, vR a, vI (0 : Nat)], [], LH L I1 R u) = some y ∧ ∃ K R2, y = (93, [vR 3, vI (t : Nat), vI q, vR a, vI (n : Nat)], [], LH L K R2 u) ∧ Dvc K R2 o n (fun j => a + 5 + 2 * j) lw' ∧ (∀ y, y < 159 ∨ 164 < y → K y = I y) ∧ ∀ y, y ≠ 160 → R2 y = R y := by
  have hn4 := hA.2.1
  have ha1 := ha.1
  refine lp_inv (fun k y => ∃ K R2, y = ([vR 3, vI (t : Nat), vI q, vR a, vI (k : Nat)], [], LH L K R2 u) ∧ Dvc K R2 o k (fun j => a + 5 + 2 * j) lw' ∧ (∀ y, y < 159 ∨ 164 < y → K y = I y) ∧ ∀ y, y ≠ 160 → R2 y = R y) _ n ⟨I1, R, rfl, hD0, h1, fun _ _ => rfl⟩ (ltF (by omega)) (fun k y hk hy => ?_) (fun y hy => ?_)
  · obtain ⟨K, R2, e0, hD, k1, k2⟩ := hy
    subst e0
    have hF2 : FixR R2 := FixR_m hF (fun a h _ _ => k2 a h)
    have hB2 : Tbc K := Tbc_o hB (fun x hx => k1 x (by unfold Nt at hx; omega))
    have h5 : K a 5 = (n : Nat) := by rw [k1 a (by omega)]; exact hA.1
    have h20 : R2 a 0 = some (a + 1) := by rw [k2 a (by omega)]; exact ha.2.2.2.2.2.2.1
    have hop := ha.2.2.2.2.2.2.2.2.2.2 k (by omega)
    have hop1 : R2 (a + 1) k = some (a + 5 + 2 * k) := by rw [k2 (a + 1) (by omega)]; exact hop.1
    have hop2 : Opx R2 (a + 5 + 2 * k) (a + 6 + 2 * k) := ⟨hop.2.1, by rw [k2 _ (by omega)]; exact hop.2.2.1, hop.2.2.2⟩
    have hG := hA.2.2 k hk
    have ec : K (a + 6 + 2 * k) = I (a + 6 + 2 * k) := k1 _ (by omega)
    have e6 : a + 5 + 2 * k + 1 = a + 6 + 2 * k := by omega
    obtain ⟨K2, R3, htk, hD2, t1, t2⟩ := s4_take (d := d) (L := L) (u := u) (I := K) hF2 hB2 h0 hD (by omega) (a := a + 5 + 2 * k) (w := lw' k) (by rw [e6]; exact hop2) (by omega) (by rw [e6]; exact fun j hj => by rw [ec, hG.2.2.2.2 j hj]; exact hG.2.2.2.1.1 j (by omega)) (by rw [e6, cl_o ec, led_c (cl_a2 hG.2.2.2.2 hG.2.2.2.1.2)]; exact hLd k hk)
    refine ⟨([vR 3, vI (t : Nat), vI q, vR a, vI (k + 1 : Nat)], [], LH L K2 R3 u), ?_, K2, R3, rfl, Dvc_c hD2 (fun j hj => ?_) (fun j hj => ?_), fun y hy => (t1 y hy).trans (k1 y hy), fun y hy => (t2 y hy).trans (k2 y hy)⟩
    · unfold wX11_within_62
      apply t_Q
      · apply t_B
        · refine x_iload rfl ?_
          refine x_aload_n rfl ?_
          refine x_giv ha.2.1 rfl (show _ = ((n : Nat) : Int) from h5) ?_
          exact rfl
        exact t_ic_ge_f (by omega)
      apply t_B
      · refine x_aload_n rfl ?_
        refine x_gr tg_3 rfl (fx_3_4 hF2) ?_
        refine x_aload_n rfl ?_
        refine x_gr ha.2.1 rfl h20 ?_
        refine x_iload rfl ?_
        refine x_aald (by rw [ha.2.2.1.1]; decide) (ha.2.2.1.2 L) (by omega) hop1 ?_
        refine x_V2v tg_159 (Nat.le_of_ble_eq_true rfl) (htk) ?_
        refine x_iinc rfl rfl ?_
        exact rfl
      exact t_goeq rfl
    · by_cases e : j = k
      · rw [e, au_s]
      · rw [au_n _ _ e]
    · by_cases e : j = k
      · rw [e, au_s]
      · rw [au_n _ _ e]
  · obtain ⟨K, R2, e0, hD, k1, k2⟩ := hy
    subst e0
    have h5 : K a 5 = (n : Nat) := by rw [k1 a (by omega)]; exact hA.1
    refine ⟨(93, [vR 3, vI (t : Nat), vI q, vR a, vI (n : Nat)], [], LH L K R2 u), ?_, by show ¬ 93 = 62 + 2; decide, K, R2, rfl, hD, k1, k2⟩
    unfold wX11_within_62
    apply t_Qs
    apply t_B
    · refine x_iload rfl ?_
      refine x_aload_n rfl ?_
      refine x_giv ha.2.1 rfl (show _ = ((n : Nat) : Int) from h5) ?_
      exact rfl
    exact t_ic_ge_t (by omega)
set_option maxRecDepth 10000 in
theorem s11_within_ok {d L : Nat} {I : Nat → Nat → Int} {R : Nat → Nat → Option Nat} {u : Int64} (hF : FixR R) (hB : Tbc I) (hS : Sn I) {q : Int} (hq : 0 < q ∧ q < 64) (hH : Hsb I q 6) {a n : Nat} {lw' : Nat → Nat} {G : Nat → Nat → Int} {J : Nat → Nat → Int} {R' : Nat → Nat → Option Nat} (hf : am_run am_tb (d + 8) 25 [vR 165, vR 4, vI q] (LH L I R u) = some ([vR a], LH L J R' u)) (hF' : FixR R') (hJ : ∀ x, x < 159 → J x = I x) (ha : Bax R' a) (hA : Bac J a n lw' G) {o : Int} (ho : I 4 2 = o) (hLd : ∀ k, k < n → led o (G k) = (lw' k : Nat)) (hGz : ∀ k, k < n → ∀ j, 91 ≤ j → G k j = 0) {t : Nat} (ht : t < 6) : ∃ K R2, am_run am_tb (d + 9) 111 [vR 3, vI (t : Nat), vI q] (LH L I R u) = some ([vI (if dgr (rdC o lw' n G (opc I t)) < 0 then 1 else 0)], LH L K R2 u) ∧ (∀ y, y < 159 ∨ 164 < y → y ≠ 300 → K y = J y) ∧ ∀ y, y ≠ 160 → R2 y = R' y := by
  have h0 : o = 0 ∨ o = 1 := by rw [← ho]; exact hS.2
  have hn4 := hA.2.1
  have ha1 := ha.1
  have hBJ : Tbc J := Tbc_o hB (fun x hx => hJ x (by unfold Nt at hx; omega))
  have ho2 : J 4 2 = o := by rw [hJ 4 (by decide)]; exact ho
  have hbg := s4_begin (d := d + 7) (L := L) (I := J) (R := R') (u := u) (o := o)
  obtain ⟨y, hl, K, R2, ey, hD, k1, k2⟩ := lp11_wi (d := d + 4) (L := L) (u := u) hF' hBJ h0 ha hA hLd (q := q) (t := t) (I1 := au (au J 159 (au (J 159) 7 o)) 159 (au (au J 159 (au (J 159) 7 o) 159) 6 0)) (fun y hy => by rw [au_n _ _ (by omega), au_n _ _ (by omega)]) Dvc_0
  subst ey
  have hF2 : FixR R2 := FixR_m hF' (fun a h _ _ => k2 a h)
  have hB2 : Tbc K := Tbc_o hBJ (fun a ha => k1 a (by unfold Nt at ha; omega))
  have hcp := s6_copyFrom (d := d + 7) (L := L) (u := u) (I := K) (op_299 hF2) (op_st hF2 ht)
  have eX : K (10 + 2 * t) = I (10 + 2 * t) := (k1 _ (by omega)).trans (hJ _ (by omega))
  rw [eX] at hcp
  have hD3 : Dvc (stc K 300 (I (10 + 2 * t))) R2 o n (fun j => a + 5 + 2 * j) lw' := Dvc_J hD (by omega) (fun j hj => by omega) (fun a ha => stc_o ha)
  have hrd := s4_reduce (d := d + 4) (L := L) (u := u) (I := stc K 300 (I (10 + 2 * t))) hF2 (Tbc_s hB2 (by unfold Nt; omega)) h0 hD3 (op_299 hF2) (by omega) (by unfold Nt; omega) (fun j hj => by omega) (fun j hj => by rw [stc_s hj]; exact Sn_op hS ht j hj)
  have eGc : ∀ j, j < n → cl (stc K 300 (I (10 + 2 * t))) (a + 5 + 2 * j + 1) = G j := fun j hj => by
    have hG := hA.2.2 j hj
    rw [show a + 5 + 2 * j + 1 = a + 6 + 2 * j by omega, cl_o (I := J) (by rw [stc_o (by omega)]; exact k1 _ (by omega))]
    funext v
    by_cases hv : v < 91
    · rw [cl_s hv]; exact hG.2.2.2.2 v hv
    · rw [hGz j hj v (by omega)]; exact if_neg hv
  obtain ⟨F, eF⟩ : ∃ F, F = rdC o lw' n G (opc I t) := ⟨_, rfl⟩
  replace hrd := ev_c hrd (show _ = stc K 300 F from stc_stc.trans (stc_c (fun v hv => by
    rw [eF]
    unfold rdC
    rw [if_pos hv]
    refine rdI_c (o := o) (ld := lw') (b := n) (B := fun j => cl (stc K 300 (I (10 + 2 * t))) (a + 5 + 2 * j + 1)) (B' := G) (f := stc K 300 (I (10 + 2 * t)) 300) (f' := opc I t) (fun j hj => eGc j hj) (fun w hw => ?_) 91 (by omega) v hv
    rw [stc_s hw]; exact (cl_s hw).symm)))
  have hFb : ∀ j, j < 91 → 0 ≤ F j ∧ F j < 10007 := fun j _ => by rw [eF]; exact rdC_b (fun v hv => opc_a hS ht v) j
  have hFd : dgr F ≤ 12 := by rw [eF]; exact rdC_d
  have hiz := s6_isZero (d := d + 6) (L := L) (u := u) (I := stc K 300 F) (op_299 hF2) (fun j hj => by rw [stc_s hj]; exact hFb j hj)
  rw [dgr_c (cl_a2 (I := stc K 300 F) (c := 300) (f := F) (fun j hj => stc_s hj) hFd)] at hiz
  rw [← eF]
  refine ⟨stc K 300 F, R2, ?_, fun y hy h3 => by rw [stc_o h3]; exact k1 y hy, k2⟩
  refine run_of tb_X11_within (Nat.le_of_ble_eq_true rfl) ?_
  show ∃ ls', am_ev (am_run am_tb (d + 8)) tX11_within ([vR 3, vI (t : Nat), vI q, vU, vU], [], LH L I R u) = _
  by_cases c : dgr F < 0
  · rw [if_pos c]
    apply Exists.intro
    unfold tX11_within
    apply t_Q
    · apply t_S
      refine x_iload_n rfl ?_
      refine x_S1i (by decide) (Nat.le_of_ble_eq_true rfl) (ret_t (show 0 ≤ (t : Int) ∧ (t : Int) < 6 by omega) (s11_isOperator (d := d + 7) (by omega))) ?_
      exact rfl
    apply t_Q
    · apply t_K
      apply t_Qs
      apply t_Ks
      · apply t_Q
        · apply t_B
          · exact rfl
          exact t_if_eq_f (by omega)
        apply t_B
        · refine x_iload_n rfl ?_
          refine x_S1i (by decide) (Nat.le_of_ble_eq_true rfl) (ret_t (show 0 < (q : Int) ∧ (q : Int) < 64 by omega) (s11_isSet (d := d + 7) (by omega))) ?_
          exact rfl
        exact t_if_ne_t (by omega)
      · decide
    apply t_Q
    · apply t_S
      refine x_aload_n rfl ?_
      refine x_iload_n rfl ?_
      refine x_V2i tg_3 (Nat.le_of_ble_eq_true rfl) (s11_has_y (d := d + 5) hF hB hS hq hH) ?_
      exact rfl
    apply t_Q
    · apply t_K
      apply t_Qs
      apply t_B
      · exact rfl
      exact t_if_ne_t (by omega)
    apply t_Q
    · apply t_S
      refine x_aload_n rfl ?_
      refine x_gr tg_3 rfl (fx_3_5 hF) ?_
      refine x_aload_n rfl ?_
      refine x_gr tg_3 rfl (fx_3_0 hF) ?_
      refine x_iload_n rfl ?_
      refine x_V3i tg_165 (Nat.le_of_ble_eq_true rfl) (hf) ?_
      refine x_astore_n rfl ?_
      refine x_aload_n rfl ?_
      refine x_gr tg_3 rfl (fx_3_4 hF') ?_
      refine x_aload_n rfl ?_
      refine x_gr tg_3 rfl (fx_3_0 hF') ?_
      refine x_giv tg_4 rfl (show _ = o from ho2) ?_
      refine x_V2v tg_159 (Nat.le_of_ble_eq_true rfl) (hbg) ?_
      refine x_iconst ?_
      refine x_istore rfl ?_
      exact rfl
    apply t_Q
    · apply t_K
      apply t_W
      exact hl
    apply t_Q
    · apply t_S
      refine x_aload_n rfl ?_
      refine x_gr tg_3 rfl (fx_3_9 hF2) ?_
      refine x_aload_n rfl ?_
      refine x_gr tg_3 rfl (fx_3_0 hF2) ?_
      refine x_gr tg_4 rfl (fx_4_0 hF2) ?_
      refine x_iload_n rfl ?_
      refine x_aald (by rw [tg_5]; decide) (ln_5 L) (by omega) (fx_op hF2 ht : R2 5 t = some (9 + 2 * t)) ?_
      refine x_V2v tg_299 (Nat.le_of_ble_eq_true rfl) (hcp) ?_
      refine x_aload_n rfl ?_
      refine x_gr tg_3 rfl (fx_3_4 hF2) ?_
      refine x_aload_n rfl ?_
      refine x_gr tg_3 rfl (fx_3_9 hF2) ?_
      refine x_V2v tg_159 (Nat.le_of_ble_eq_true rfl) (hrd) ?_
      refine x_aload_n rfl ?_
      refine x_gr tg_3 rfl (fx_3_9 hF2) ?_
      refine x_V1i tg_299 (Nat.le_of_ble_eq_true rfl) (ret_t c hiz) ?_
      exact rfl
    apply t_Q
    · apply t_K
      apply t_Qs
      apply t_Ks
      · apply t_Q
        · apply t_B
          · exact rfl
          exact t_if_eq_f (by omega)
        apply t_B
        · refine x_iconst ?_
          exact rfl
        exact t_goto
      · decide
    apply t_B
    · exact rfl
    exact t_ireq (Or.inl rfl) rfl rfl
  · rw [if_neg c]
    apply Exists.intro
    unfold tX11_within
    apply t_Q
    · apply t_S
      refine x_iload_n rfl ?_
      refine x_S1i (by decide) (Nat.le_of_ble_eq_true rfl) (ret_t (show 0 ≤ (t : Int) ∧ (t : Int) < 6 by omega) (s11_isOperator (d := d + 7) (by omega))) ?_
      exact rfl
    apply t_Q
    · apply t_K
      apply t_Qs
      apply t_Ks
      · apply t_Q
        · apply t_B
          · exact rfl
          exact t_if_eq_f (by omega)
        apply t_B
        · refine x_iload_n rfl ?_
          refine x_S1i (by decide) (Nat.le_of_ble_eq_true rfl) (ret_t (show 0 < (q : Int) ∧ (q : Int) < 64 by omega) (s11_isSet (d := d + 7) (by omega))) ?_
          exact rfl
        exact t_if_ne_t (by omega)
      · decide
    apply t_Q
    · apply t_S
      refine x_aload_n rfl ?_
      refine x_iload_n rfl ?_
      refine x_V2i tg_3 (Nat.le_of_ble_eq_true rfl) (s11_has_y (d := d + 5) hF hB hS hq hH) ?_
      exact rfl
    apply t_Q
    · apply t_K
      apply t_Qs
      apply t_B
      · exact rfl
      exact t_if_ne_t (by omega)
    apply t_Q
    · apply t_S
      refine x_aload_n rfl ?_
      refine x_gr tg_3 rfl (fx_3_5 hF) ?_
      refine x_aload_n rfl ?_
      refine x_gr tg_3 rfl (fx_3_0 hF) ?_
      refine x_iload_n rfl ?_
      refine x_V3i tg_165 (Nat.le_of_ble_eq_true rfl) (hf) ?_
      refine x_astore_n rfl ?_
      refine x_aload_n rfl ?_
      refine x_gr tg_3 rfl (fx_3_4 hF') ?_
      refine x_aload_n rfl ?_
      refine x_gr tg_3 rfl (fx_3_0 hF') ?_
      refine x_giv tg_4 rfl (show _ = o from ho2) ?_
      refine x_V2v tg_159 (Nat.le_of_ble_eq_true rfl) (hbg) ?_
      refine x_iconst ?_
      refine x_istore rfl ?_
      exact rfl
    apply t_Q
    · apply t_K
      apply t_W
      exact hl
    apply t_Q
    · apply t_S
      refine x_aload_n rfl ?_
      refine x_gr tg_3 rfl (fx_3_9 hF2) ?_
      refine x_aload_n rfl ?_
      refine x_gr tg_3 rfl (fx_3_0 hF2) ?_
      refine x_gr tg_4 rfl (fx_4_0 hF2) ?_
      refine x_iload_n rfl ?_
      refine x_aald (by rw [tg_5]; decide) (ln_5 L) (by omega) (fx_op hF2 ht : R2 5 t = some (9 + 2 * t)) ?_
      refine x_V2v tg_299 (Nat.le_of_ble_eq_true rfl) (hcp) ?_
      refine x_aload_n rfl ?_
      refine x_gr tg_3 rfl (fx_3_4 hF2) ?_
      refine x_aload_n rfl ?_
      refine x_gr tg_3 rfl (fx_3_9 hF2) ?_
      refine x_V2v tg_159 (Nat.le_of_ble_eq_true rfl) (hrd) ?_
      refine x_aload_n rfl ?_
      refine x_gr tg_3 rfl (fx_3_9 hF2) ?_
      refine x_V1i tg_299 (Nat.le_of_ble_eq_true rfl) (ret_f c hiz) ?_
      exact rfl
    apply t_Q
    · apply t_Ks
      · apply t_Q
        · apply t_K
          apply t_Qs
          apply t_B
          · exact rfl
          exact t_if_eq_t (by omega)
        apply t_S
        refine x_iconst ?_
        exact rfl
      · decide
    apply t_B
    · exact rfl
    exact t_ireq (Or.inl rfl) rfl rfl
