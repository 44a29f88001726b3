/-! The class: makes, kills. Written by wip/whole/gen_89.py. -/
/-- the first word of an operator that makes too great a power; 91: there is none -/
def fitN (e c : Nat → Int) : Nat := fnd (fun w => decide (e w ≠ 0 ∧ ((dw w : Nat) : Int) ≤ 30 - (zp c : Int) ∧ 30 < 30 - (zp c : Int) - ((dw w : Nat) : Int) + ((xw w : Nat) : Int))) 91
theorem fitN_le (e c : Nat → Int) : fitN e c ≤ 91 := fnd_le _ _
theorem fitN_no {e c : Nat → Int} {w : Nat} (h : w < fitN e c) : ¬ (e w ≠ 0 ∧ ((dw w : Nat) : Int) ≤ 30 - (zp c : Int) ∧ 30 < 30 - (zp c : Int) - ((dw w : Nat) : Int) + ((xw w : Nat) : Int)) := of_decide_eq_false (fnd_no (p := fun w => decide (e w ≠ 0 ∧ ((dw w : Nat) : Int) ≤ 30 - (zp c : Int) ∧ 30 < 30 - (zp c : Int) - ((dw w : Nat) : Int) + ((xw w : Nat) : Int))) h)
theorem fitN_yes {e c : Nat → Int} (h : fitN e c < 91) : e (fitN e c) ≠ 0 ∧ ((dw (fitN e c) : Nat) : Int) ≤ 30 - (zp c : Int) ∧ 30 < 30 - (zp c : Int) - ((dw (fitN e c) : Nat) : Int) + ((xw (fitN e c) : Nat) : Int) := of_decide_eq_true (fnd_yes (p := fun w => decide (e w ≠ 0 ∧ ((dw w : Nat) : Int) ≤ 30 - (zp c : Int) ∧ 30 < 30 - (zp c : Int) - ((dw w : Nat) : Int) + ((xw w : Nat) : Int))) h)
set_option maxRecDepth 10000 in
theorem lp0_fits {d L : Nat} {I : Nat → Nat → Int} {R : Nat → Nat → Option Nat} {u : Int64} {a e c : Nat} (hF : FixR R) (hB : Tbc I) (ha : Opx R a e) (hc : Arx c 31) (he : Rsc I e) (hr : ∀ j, j < 31 → 0 ≤ I c j ∧ I c j < 10007) : ∃ r, am_lp (am_ev (am_run am_tb d) wX0_fits_8) 8 am_F ([vR 235, vR a, vR c, vI (30 - (zp (I c) : Int)), vI 0, vU], [], LH L I R u) = some r ∧ ((fitN (I e) (I c) = 91 ∧ ∃ l4 l5, r = (65, [vR 235, vR a, vR c, vI (30 - (zp (I c) : Int)), l4, l5], [], LH L I R u)) ∨ (fitN (I e) (I c) < 91 ∧ ∃ ls, r = (1, ls, [vI 0], LH L I R u))) := by
  have hz := zp_le (I c)
  have hl := fitN_le (I e) (I c)
  refine lp_inv (fun k y => ∃ l5, y = ([vR 235, vR a, vR c, vI (30 - (zp (I c) : Int)), vI k, l5], [], LH L I R u)) _ (fitN (I e) (I c)) ⟨_, rfl⟩ (ltF (by omega)) (fun k y hk hp => ?_) (fun y hp => ?_)
  · obtain ⟨l5, e0⟩ := hp
    subst e0
    have hb := fitN_no hk
    have hek := he k (by omega)
    have hw := wn_12 (k := k) (by omega)
    have hxd := xw_dw k
    by_cases q0 : I e k = 0
    · refine inv_e1 (ls := fun l5 => [vR 235, vR a, vR c, vI (30 - (zp (I c) : Int)), vI ((k + 1 : Nat) : Int), l5]) (h := LH L I R u) ?_ (fun _ => ⟨_, rfl⟩)
      apply Exists.intro
      unfold wX0_fits_8
      apply t_Q
      · apply t_B
        · refine x_iload rfl ?_
          refine x_bipush ?_
          exact rfl
        exact t_ic_ge_f (by omega)
      apply t_Q
      · apply t_S
        refine x_getstatic ?_
        refine x_iload rfl ?_
        refine x_ialdv (Or.inr tg_2) (ln_2 L) (by omega) (show _ = ((dw (k) : Nat) : Int) from hB.1.2 _ (by omega)) ?_
        refine x_istore rfl ?_
        refine x_aload_n rfl ?_
        refine x_gr ha.1 rfl ha.2.1 ?_
        refine x_iload rfl ?_
        refine x_ialdv (Or.inl ha.2.2.1) (ha.2.2.2 L) (by omega) (show _ = I e (k) from congrArg (I e) (Int.toNat_natCast _)) ?_
        exact rfl
      apply t_Q
      · apply t_K
        apply t_Qs
        apply t_B
        · exact rfl
        exact t_if_eq_t (by omega)
      apply t_B
      · refine x_iinc rfl rfl ?_
        exact rfl
      exact t_goeq rfl
    by_cases q1 : 30 - (zp (I c) : Int) < ((dw k : Nat) : Int)
    · refine inv_e1 (ls := fun l5 => [vR 235, vR a, vR c, vI (30 - (zp (I c) : Int)), vI ((k + 1 : Nat) : Int), l5]) (h := LH L I R u) ?_ (fun _ => ⟨_, rfl⟩)
      apply Exists.intro
      unfold wX0_fits_8
      apply t_Q
      · apply t_B
        · refine x_iload rfl ?_
          refine x_bipush ?_
          exact rfl
        exact t_ic_ge_f (by omega)
      apply t_Q
      · apply t_S
        refine x_getstatic ?_
        refine x_iload rfl ?_
        refine x_ialdv (Or.inr tg_2) (ln_2 L) (by omega) (show _ = ((dw (k) : Nat) : Int) from hB.1.2 _ (by omega)) ?_
        refine x_istore rfl ?_
        refine x_aload_n rfl ?_
        refine x_gr ha.1 rfl ha.2.1 ?_
        refine x_iload rfl ?_
        refine x_ialdv (Or.inl ha.2.2.1) (ha.2.2.2 L) (by omega) (show _ = I e (k) from congrArg (I e) (Int.toNat_natCast _)) ?_
        exact rfl
      apply t_Q
      · apply t_K
        apply t_Q
        · apply t_B
          · exact rfl
          exact t_if_eq_f (by omega)
        apply t_Qs
        apply t_B
        · refine x_iload rfl ?_
          refine x_iload_n rfl ?_
          exact rfl
        exact t_ic_gt_t (by omega)
      apply t_B
      · refine x_iinc rfl rfl ?_
        exact rfl
      exact t_goeq rfl
    have q2 : 30 - (zp (I c) : Int) - ((dw k : Nat) : Int) + ((xw k : Nat) : Int) ≤ 30 := Int.not_lt.mp fun z => hb ⟨q0, by omega, z⟩
    refine inv_e1 (ls := fun l5 => [vR 235, vR a, vR c, vI (30 - (zp (I c) : Int)), vI ((k + 1 : Nat) : Int), l5]) (h := LH L I R u) ?_ (fun _ => ⟨_, rfl⟩)
    apply Exists.intro
    unfold wX0_fits_8
    apply t_Q
    · apply t_B
      · refine x_iload rfl ?_
        refine x_bipush ?_
        exact rfl
      exact t_ic_ge_f (by omega)
    apply t_Q
    · apply t_S
      refine x_getstatic ?_
      refine x_iload rfl ?_
      refine x_ialdv (Or.inr tg_2) (ln_2 L) (by omega) (show _ = ((dw (k) : Nat) : Int) from hB.1.2 _ (by omega)) ?_
      refine x_istore rfl ?_
      refine x_aload_n rfl ?_
      refine x_gr ha.1 rfl ha.2.1 ?_
      refine x_iload rfl ?_
      refine x_ialdv (Or.inl ha.2.2.1) (ha.2.2.2 L) (by omega) (show _ = I e (k) from congrArg (I e) (Int.toNat_natCast _)) ?_
      exact rfl
    apply t_Q
    · apply t_K
      apply t_Q
      · apply t_B
        · exact rfl
        exact t_if_eq_f (by omega)
      apply t_Q
      · apply t_B
        · refine x_iload rfl ?_
          refine x_iload_n rfl ?_
          exact rfl
        exact t_ic_gt_f (by omega)
      apply t_Qs
      apply t_B
      · refine x_iload_n rfl ?_
        refine x_iload rfl ?_
        refine x_isub ?_
        refine x_getstatic ?_
        refine x_iload rfl ?_
        refine x_ialdv (Or.inr tg_1) (ln_1 L) (by omega) (show _ = ((xw (k) : Nat) : Int) from hB.1.1 _ (by omega)) ?_
        refine x_iadd ?_
        refine x_bipush ?_
        exact rfl
      exact t_ic_le_t (by omega)
    apply t_B
    · refine x_iinc rfl rfl ?_
      exact rfl
    exact t_goeq rfl
  · obtain ⟨l5, e0⟩ := hp
    subst e0
    by_cases q : fitN (I e) (I c) = 91
    · refine ⟨(65, [vR 235, vR a, vR c, vI (30 - (zp (I c) : Int)), vI (fitN (I e) (I c)), l5], [], LH L I R u), ?_, by show ¬ 65 = 8 + 2; decide, Or.inl ⟨q, _, l5, rfl⟩⟩
      rw [q]
      unfold wX0_fits_8
      apply t_Qs
      apply t_B
      · refine x_iload rfl ?_
        refine x_bipush ?_
        exact rfl
      exact t_ic_ge_t (by omega)
    · have hb := fitN_yes (e := I e) (c := I c) (by omega)
      have q9 : fitN (I e) (I c) < 91 := by omega
      generalize fitN (I e) (I c) = z at *
      have hek := he z (by omega)
      have hw := wn_12 (k := z) (by omega)
      have hxd := xw_dw z
      have hq0 := hb.1
      have hq1 := hb.2.1
      have hq2 := hb.2.2
      have key : ∃ ls, am_ev (am_run am_tb d) wX0_fits_8 ([vR 235, vR a, vR c, vI (30 - (zp (I c) : Int)), vI z, l5], [], LH L I R u) = some (1, ls, [vI 0], LH L I R u) := by
        apply Exists.intro
        unfold wX0_fits_8
        apply t_Q
        · apply t_B
          · refine x_iload rfl ?_
            refine x_bipush ?_
            exact rfl
          exact t_ic_ge_f (by omega)
        apply t_Q
        · apply t_S
          refine x_getstatic ?_
          refine x_iload rfl ?_
          refine x_ialdv (Or.inr tg_2) (ln_2 L) (by omega) (show _ = ((dw (z) : Nat) : Int) from hB.1.2 _ (by omega)) ?_
          refine x_istore rfl ?_
          refine x_aload_n rfl ?_
          refine x_gr ha.1 rfl ha.2.1 ?_
          refine x_iload rfl ?_
          refine x_ialdv (Or.inl ha.2.2.1) (ha.2.2.2 L) (by omega) (show _ = I e (z) from congrArg (I e) (Int.toNat_natCast _)) ?_
          exact rfl
        apply t_Qs
        apply t_Ks
        · apply t_Q
          · apply t_B
            · exact rfl
            exact t_if_eq_f (by omega)
          apply t_Q
          · apply t_B
            · refine x_iload rfl ?_
              refine x_iload_n rfl ?_
              exact rfl
            exact t_ic_gt_f (by omega)
          apply t_Q
          · apply t_B
            · refine x_iload_n rfl ?_
              refine x_iload rfl ?_
              refine x_isub ?_
              refine x_getstatic ?_
              refine x_iload rfl ?_
              refine x_ialdv (Or.inr tg_1) (ln_1 L) (by omega) (show _ = ((xw (z) : Nat) : Int) from hB.1.1 _ (by omega)) ?_
              refine x_iadd ?_
              refine x_bipush ?_
              exact rfl
            exact t_ic_le_f (by omega)
          apply t_B
          · refine x_iconst ?_
            exact rfl
          exact t_ireq (Or.inr (Or.inl rfl)) rfl rfl
        · decide
      obtain ⟨ls, key⟩ := key
      exact ⟨_, key, by show ¬ 1 = 8 + 2; decide, Or.inr ⟨q9, ls, rfl⟩⟩
set_option maxRecDepth 10000 in
theorem s0_fits {d L : Nat} {I : Nat → Nat → Int} {R : Nat → Nat → Option Nat} {u : Int64} {a e c : Nat} (hF : FixR R) (hB : Tbc I) (ha : Opx R a e) (hc : Arx c 31) (he : Rsc I e) (hr : ∀ j, j < 31 → 0 ≤ I c j ∧ I c j < 10007) : am_run am_tb (d + 2) 2 [vR 235, vR a, vR c] (LH L I R u) = some ([vI (if fitN (I e) (I c) = 91 then 1 else 0)], LH L I R u) := by
  refine run_of tb_X0_fits (Nat.le_of_ble_eq_true rfl) ?_
  show ∃ ls', am_ev (am_run am_tb (d + 1)) tX0_fits ([vR 235, vR a, vR c, vU, vU, vU], [], (LH L I R u)) = some (1, ls', [vI (if fitN (I e) (I c) = 91 then 1 else 0)], LH L I R u)
  obtain ⟨r, hl, h⟩ := lp0_fits (d := d + 1) (L := L) (u := u) hF hB ha hc he hr
  rcases h with ⟨q, l4, l5, er⟩ | ⟨q, ls, er⟩
  · subst er
    rw [if_pos q]
    apply Exists.intro
    unfold tX0_fits
    apply t_Q
    · apply t_S
      refine x_aload_n rfl ?_
      refine x_S1i (by decide) (Nat.le_of_ble_eq_true rfl) (s0_degree (d := d) hc hr) ?_
      refine x_istore_n rfl ?_
      refine x_iconst ?_
      refine x_istore rfl ?_
      exact rfl
    apply t_Q
    · apply t_K
      apply t_W
      exact hl
    apply t_B
    · refine x_iconst ?_
      exact rfl
    exact t_ireq (Or.inr (by first | exact Or.inl rfl | exact Or.inr rfl)) rfl rfl
  · subst er
    rw [if_neg (by omega)]
    apply Exists.intro
    unfold tX0_fits
    apply t_Q
    · apply t_S
      refine x_aload_n rfl ?_
      refine x_S1i (by decide) (Nat.le_of_ble_eq_true rfl) (s0_degree (d := d) hc hr) ?_
      refine x_istore_n rfl ?_
      refine x_iconst ?_
      refine x_istore rfl ?_
      exact rfl
    apply t_Qs
    apply t_Ks
    · apply t_W
      exact hl
    · decide
/-- what an operator makes of a polynomial -/
def imV (e c : Nat → Int) (m p : Nat) : Int := smk (fun n => c n * imS e n p 91) m
def imM (e c : Nat → Int) (m : Nat) : Nat → Int := fun p => imV e c m p % 10007
theorem imM_b (e c : Nat → Int) (m p : Nat) : 0 ≤ imM e c m p ∧ imM e c m p < 10007 := by unfold imM; omega
theorem imM_s (e c : Nat → Int) (m p : Nat) : (imM e c m p + c m * imS e m p 91) % 10007 = imM e c (m + 1) p := by
  unfold imM
  rw [show imV e c (m + 1) p = imV e c m p + c m * imS e m p 91 from rfl]
  omega
theorem imM_z {e c : Nat → Int} {m p : Nat} (h : c m = 0) : imM e c (m + 1) p = imM e c m p := by
  rw [← imM_s, h, Int.zero_mul, Int.add_zero]
  have := imM_b e c m p
  omega
theorem imM_e {e c : Nat → Int} {p : Nat} : imM e c (31 - zp c) p = imM e c 31 p := by
  unfold imM imV
  rw [smk_ext (t := fun n => c n * imS e n p 91) (n := 31 - zp c) (m := 31) (by omega) (fun k h1 h2 => by
    have := zp_no (g := c) (k := 30 - k) (by omega)
    rw [show 30 - (30 - k) = k by omega] at this
    rw [this, Int.zero_mul])]
theorem arx_253 : Arx 253 31 := ⟨tg_253, ln_253, by decide⟩
set_option maxRecDepth 10000 in
theorem lp0_apply {d L : Nat} {I : Nat → Nat → Int} {R : Nat → Nat → Option Nat} {u : Int64} {a e c : Nat} (hF : FixR R) (hB : Tbc I) (ha : Opx R a e) (hc : Arx c 31) (he : Rsc I e) (hr : ∀ j, j < 31 → 0 ≤ I c j ∧ I c j < 10007) (hc3 : c < 253) (he3 : e < 253) : am_lp (am_ev (am_run am_tb (d + 2)) wX0_apply_16) 16 am_F ([vR 235, vR a, vR c, vI (30 - (zp (I c) : Int)), vI 0], [], LH L (stv I 253 31 (imM (I e) (I c) 0)) R u) = some (52, [vR 235, vR a, vR c, vI (30 - (zp (I c) : Int)), vI ((31 - zp (I c) : Nat) : Int)], [], LH L (stv I 253 31 (imM (I e) (I c) 31)) R u) := by
  have hz := zp_le (I c)
  refine lp_up0 (fun n => ([vR 235, vR a, vR c, vI (30 - (zp (I c) : Int)), vI n], [], LH L (stv I 253 31 (imM (I e) (I c) n)) R u)) (31 - zp (I c)) rfl (ltF (by omega)) (by show ¬ 52 = 16 + 2; decide) (fun n hn => ?_) ?_
  · have h1 := hr n (by omega)
    by_cases q0 : I c n = 0
    · have hg : (stv I 253 31 (imM (I e) (I c) n)) = (stv I 253 31 (imM (I e) (I c) (n + 1))) := stv_c (fun p hp => (imM_z q0).symm)
      rw [← hg]
      unfold wX0_apply_16
      apply t_Q
      · apply t_B
        · refine x_iload rfl ?_
          refine x_iload_n rfl ?_
          exact rfl
        exact t_ic_gt_f (by omega)
      apply t_Q
      · apply t_S
        refine x_aload_n rfl ?_
        refine x_iload rfl ?_
        refine x_ialdv (Or.inl hc.1) (hc.2.1 L) (by omega) (show _ = I c n from congrFun (stv_o (by omega)) n) ?_
        exact rfl
      apply t_Q
      · apply t_K
        apply t_Qs
        apply t_B
        · exact rfl
        exact t_if_eq_t (by omega)
      apply t_B
      · refine x_iinc rfl rfl ?_
        exact rfl
      exact t_goeq rfl
    · have hi := s0_addImage (d := d) (L := L) (u := u) (I := (stv I 253 31 (imM (I e) (I c) n))) hF (Tbc_v hB (by unfold Nt; omega)) arx_253 ha (by unfold Nt; omega) (by omega) (fun j hj => by rw [stv_s hj]; exact imM_b _ _ _ _) (fun j hj => by rw [stv_o (by omega)]; exact he j hj) (v := I c n) h1 (n := n) (by omega)
      replace hi := ev_c hi (show _ = (stv I 253 31 (imM (I e) (I c) (n + 1))) from stv_stv.trans (stv_c (fun p hp => by rw [stv_s hp, stv_o (by omega)]; exact imM_s _ _ _ _)))
      generalize (stv I 253 31 (imM (I e) (I c) (n + 1))) = Z at *
      unfold wX0_apply_16
      apply t_Q
      · apply t_B
        · refine x_iload rfl ?_
          refine x_iload_n rfl ?_
          exact rfl
        exact t_ic_gt_f (by omega)
      apply t_Q
      · apply t_S
        refine x_aload_n rfl ?_
        refine x_iload rfl ?_
        refine x_ialdv (Or.inl hc.1) (hc.2.1 L) (by omega) (show _ = I c n from congrFun (stv_o (by omega)) n) ?_
        exact rfl
      apply t_Q
      · apply t_Ks
        · apply t_Q
          · apply t_B
            · exact rfl
            exact t_if_eq_f (by omega)
          apply t_S
          refine x_aload_n rfl ?_
          refine x_aload_n rfl ?_
          refine x_gr tg_235 rfl (fx_235_2 hF) ?_
          refine x_aload_n rfl ?_
          refine x_aload_n rfl ?_
          refine x_iload rfl ?_
          refine x_ialdv (Or.inl hc.1) (hc.2.1 L) (by omega) (show _ = I c n from congrFun (stv_o (by omega)) n) ?_
          refine x_iload rfl ?_
          refine x_V5v tg_235 (Nat.le_of_ble_eq_true rfl) (hi) ?_
          exact rfl
        · decide
      apply t_B
      · refine x_iinc rfl rfl ?_
        exact rfl
      exact t_goeq rfl
  · have hg : (stv I 253 31 (imM (I e) (I c) (31 - zp (I c)))) = (stv I 253 31 (imM (I e) (I c) 31)) := stv_c (fun p hp => imM_e)
    rw [hg]
    unfold wX0_apply_16
    apply t_Qs
    apply t_B
    · refine x_iload rfl ?_
      refine x_iload_n rfl ?_
      exact rfl
    exact t_ic_gt_t (by omega)
set_option maxRecDepth 10000 in
theorem s0_apply {d L : Nat} {I : Nat → Nat → Int} {R : Nat → Nat → Option Nat} {u : Int64} {a e c : Nat} (hF : FixR R) (hB : Tbc I) (ha : Opx R a e) (hc : Arx c 31) (he : Rsc I e) (hr : ∀ j, j < 31 → 0 ≤ I c j ∧ I c j < 10007) (hc3 : c < 253) (he3 : e < 253) : am_run am_tb (d + 3) 3 [vR 235, vR a, vR c] (LH L I R u) = some ([], LH L (stv I 253 31 (imM (I e) (I c) 31)) R u) := by
  refine run_of tb_X0_apply (Nat.le_of_ble_eq_true rfl) ?_
  show ∃ ls', am_ev (am_run am_tb (d + 2)) tX0_apply ([vR 235, vR a, vR c, vU, vU], [], (LH L I R u)) = some (1, ls', [], LH L (stv I 253 31 (imM (I e) (I c) 31)) R u)
  have hfl := sj_fill (d := d + 1) (L := L) (u := u) (R := R) (I := I) arx_253 (v := 0)
  replace hfl := ev_c hfl (show _ = (stv I 253 31 (imM (I e) (I c) 0)) from stv_c (fun p hp => rfl))
  have hdg := s0_degree (d := d + 1) (L := L) (u := u) (R := R) (I := (stv I 253 31 (imM (I e) (I c) 0))) hc (fun j hj => by rw [stv_o (by omega)]; exact hr j hj)
  rw [show (stv I 253 31 (imM (I e) (I c) 0)) c = I c from stv_o (by omega)] at hdg
  have hl := lp0_apply (d := d) (L := L) (u := u) hF hB ha hc he hr hc3 he3
  generalize (stv I 253 31 (imM (I e) (I c) 0)) = Z at *
  apply Exists.intro
  unfold tX0_apply
  apply t_Q
  · apply t_S
    refine x_aload_n rfl ?_
    refine x_gr tg_235 rfl (fx_235_2 hF) ?_
    refine x_iconst ?_
    refine x_S2v (by decide) (Nat.le_of_ble_eq_true rfl) (hfl) ?_
    refine x_aload_n rfl ?_
    refine x_S1i (by decide) (Nat.le_of_ble_eq_true rfl) (hdg) ?_
    refine x_istore_n rfl ?_
    refine x_iconst ?_
    refine x_istore rfl ?_
    exact rfl
  apply t_Q
  · apply t_K
    apply t_W
    exact hl
  apply t_B
  · exact rfl
  exact rfl
set_option maxRecDepth 10000 in
theorem s11_makes_full {d L : Nat} {I : Nat → Nat → Int} {R : Nat → Nat → Option Nat} {u : Int64} (hF : FixR R) (hB : Tbc I) (hS : Sn I) {g s f : Nat} (hg : g < 2) (hs : s < 6) (hf : f < 2) (hd : ¬ (fitN (I (10 + 2 * s)) (I (7 + f)) = 91)) : am_run am_tb (d + 3) 104 [vR 3, vI g, vI s, vI f] (LH L I R u) = some ([vI (-20004)], LH L (rc I 2) R u) := by
  refine run_of tb_X11_makes (Nat.le_of_ble_eq_true rfl) ?_
  show ∃ ls', am_ev (am_run am_tb (d + 2)) tX11_makes ([vR 3, vI g, vI s, vI f, vU, vU, vU], [], (LH L I R u)) = some (1, ls', [vI (-20004)], LH L (rc I 2) R u)
  apply Exists.intro
  unfold tX11_makes
  apply t_Q
  · apply t_S
    refine x_iload_n rfl ?_
    refine x_S1i (by decide) (Nat.le_of_ble_eq_true rfl) (ret_t (show 0 ≤ (g : Int) ∧ (g : Int) < 2 by omega) (s11_isPolynomial (d := d + 1) (by omega))) ?_
    exact rfl
  apply t_Q
  · apply t_K
    apply t_Qs
    apply t_Ks
    · apply t_Q
      · apply t_B
        · exact rfl
        exact t_if_eq_f (by omega)
      apply t_Q
      · apply t_B
        · refine x_iload_n rfl ?_
          refine x_S1i (by decide) (Nat.le_of_ble_eq_true rfl) (ret_t (show 0 ≤ (s : Int) ∧ (s : Int) < 6 by omega) (s11_isOperator (d := d + 1) (by omega))) ?_
          exact rfl
        exact t_if_eq_f (by omega)
      apply t_B
      · refine x_iload_n rfl ?_
        refine x_S1i (by decide) (Nat.le_of_ble_eq_true rfl) (ret_t (show 0 ≤ (f : Int) ∧ (f : Int) < 2 by omega) (s11_isPolynomial (d := d + 1) (by omega))) ?_
        exact rfl
      exact t_if_ne_t (by omega)
    · decide
  apply t_Q
  · apply t_S
    refine x_aload_n rfl ?_
    refine x_gr tg_3 rfl (fx_3_0 hF) ?_
    refine x_gr tg_4 rfl (fx_4_0 hF) ?_
    refine x_iload_n rfl ?_
    refine x_aald (by rw [tg_5]; decide) (ln_5 L) (by omega) (fx_op hF hs : R 5 s = some (9 + 2 * s)) ?_
    refine x_astore rfl ?_
    refine x_aload_n rfl ?_
    refine x_gr tg_3 rfl (fx_3_0 hF) ?_
    refine x_gr tg_4 rfl (fx_4_1 hF) ?_
    refine x_iload_n rfl ?_
    refine x_aald (by rw [tg_6]; decide) (ln_6 L) (by omega) (fx_po hF hf : R 6 f = some (7 + f)) ?_
    refine x_astore rfl ?_
    refine x_aload_n rfl ?_
    refine x_gr tg_3 rfl (fx_3_6 hF) ?_
    refine x_aload rfl ?_
    refine x_aload rfl ?_
    refine x_V3i tg_235 (Nat.le_of_ble_eq_true rfl) (ret_f hd (s0_fits (d := d + 0) hF hB (op_st hF hs) (po_st hf) (Sn_op hS hs) (fun j hj => Sn_po hS hf hj))) ?_
    exact rfl
  apply t_Qs
  apply t_Ks
  · apply t_Q
    · apply t_B
      · exact rfl
      exact t_if_ne_f (by omega)
    apply t_B
    · refine x_aload_n rfl ?_
      refine x_V1i tg_3 (Nat.le_of_ble_eq_true rfl) (s11_full (d := d + 1) hF) ?_
      exact rfl
    exact t_ireq (Or.inl rfl) rfl rfl
  · decide
/-- one polynomial of a state is another -/
def polS (h : Nat → Int) (g : Nat) (f : Nat → Int) : Nat → Int := fun j => if 546 + 31 * g ≤ j ∧ j < 577 + 31 * g then f (j - (546 + 31 * g)) else h j
set_option maxRecDepth 10000 in
theorem s11_makes_ok {d L : Nat} {I : Nat → Nat → Int} {R : Nat → Nat → Option Nat} {u : Int64} (hF : FixR R) (hB : Tbc I) (hS : Sn I) {t n : Nat} (hH : Hi I t n) {g s f : Nat} (hg : g < 2) (hs : s < 6) (hf : f < 2) (hd : fitN (I (10 + 2 * s)) (I (7 + f)) = 91) : ∃ J, am_run am_tb (d + 4) 104 [vR 3, vI g, vI s, vI f] (LH L I R u) = some ([vI (if zp (imM (I (10 + 2 * s)) (I (7 + f)) 31) = 31 then -20001 else 30 - (zp (imM (I (10 + 2 * s)) (I (7 + f)) 31) : Int))], LH L J R u) ∧ Cw I J t n (polS (snow I 4) g (imM (I (10 + 2 * s)) (I (7 + f)) 31)) := by
  have ht := hH.2.1
  have hap := s0_apply (d := d) (L := L) (u := u) hF hB (op_st hF hs) (po_st hf) (Sn_op hS hs) (fun j hj => Sn_po hS hf hj) (by omega) (by omega)
  have hmb := imM_b (I (10 + 2 * s)) (I (7 + f)) 31
  generalize imM (I (10 + 2 * s)) (I (7 + f)) 31 = M at *
  have hM : Fc I (stv I 253 31 M) := Fc_n (fun a ha => stv_o (fun z => ha (by unfold Sca; omega)))
  have hH2 := Fc_Hi hM hH
  obtain ⟨K, ek, k1, k2, k3, k4⟩ := s5_keep (d := d) (L := L) (u := u) (I := stv I 253 31 M) hF hH2.1 hH2.2.1 hH2.2.2.1 hH2.2.2.2
  have e3 : ∀ j, j < 31 → K 253 j = M j := fun j hj => by rw [k4 253 (by omega) (by omega), stv_s hj]
  have hdg := s0_degree (d := d + 2) (L := L) (u := u) (R := R) (I := au K (7 + g) (fun j => if j < 31 then K 253 j else K (7 + g) j)) arx_253 (fun j hj => by rw [au_n _ _ (by omega), e3 j hj]; exact hmb j)
  rw [show zp (au K (7 + g) (fun j => if j < 31 then K 253 j else K (7 + g) j) 253) = zp M from zp_c (fun j hj => by rw [au_n _ _ (by omega), e3 j hj])] at hdg
  have hzl := zp_le M
  have hC : Cw I (au K (7 + g) (fun j => if j < 31 then K 253 j else K (7 + g) j)) t n (polS (snow I 4) g M) := Cw_F hM (Cw_k ht k1 k2 k3 k4 (fun a ha => au_n _ _ (by omega)) (snow_mk (fun r j hr hj => by
    unfold polS
    rw [if_neg (by omega), au_n _ _ (by omega), k4 _ (by omega) (by omega), stv_o (by omega), snow_op hr hj]) (fun q p hq hp => by
    unfold polS
    by_cases e : q = g
    · rw [if_pos (by omega), e, show 4 + 3 + g = 7 + g by omega, au_s, if_pos hp, e3 p hp, show 546 + 31 * g + p - (546 + 31 * g) = p by omega]
    · rw [if_neg (by omega), au_n _ _ (by omega), k4 _ (by omega) (by omega), stv_o (by omega), snow_po hq hp]) (by
    unfold polS
    rw [if_neg (by omega), au_n _ _ (by omega), k4 _ (by omega) (by omega), stv_o (by omega), snow_or])))
  refine ⟨_, ?_, hC⟩
  refine run_of tb_X11_makes (Nat.le_of_ble_eq_true rfl) ?_
  show ∃ ls', am_ev (am_run am_tb (d + 3)) tX11_makes ([vR 3, vI g, vI s, vI f, vU, vU, vU], [], LH L I R u) = _
  by_cases q : zp M = 31
  · rw [if_pos q]
    apply Exists.intro
    unfold tX11_makes
    apply t_Q
    · apply t_S
      refine x_iload_n rfl ?_
      refine x_S1i (by decide) (Nat.le_of_ble_eq_true rfl) (ret_t (show 0 ≤ (g : Int) ∧ (g : Int) < 2 by omega) (s11_isPolynomial (d := d + 2) (by omega))) ?_
      exact rfl
    apply t_Q
    · apply t_K
      apply t_Qs
      apply t_Ks
      · apply t_Q
        · apply t_B
          · exact rfl
          exact t_if_eq_f (by omega)
        apply t_Q
        · apply t_B
          · refine x_iload_n rfl ?_
            refine x_S1i (by decide) (Nat.le_of_ble_eq_true rfl) (ret_t (show 0 ≤ (s : Int) ∧ (s : Int) < 6 by omega) (s11_isOperator (d := d + 2) (by omega))) ?_
            exact rfl
          exact t_if_eq_f (by omega)
        apply t_B
        · refine x_iload_n rfl ?_
          refine x_S1i (by decide) (Nat.le_of_ble_eq_true rfl) (ret_t (show 0 ≤ (f : Int) ∧ (f : Int) < 2 by omega) (s11_isPolynomial (d := d + 2) (by omega))) ?_
          exact rfl
        exact t_if_ne_t (by omega)
      · decide
    apply t_Q
    · apply t_S
      refine x_aload_n rfl ?_
      refine x_gr tg_3 rfl (fx_3_0 hF) ?_
      refine x_gr tg_4 rfl (fx_4_0 hF) ?_
      refine x_iload_n rfl ?_
      refine x_aald (by rw [tg_5]; decide) (ln_5 L) (by omega) (fx_op hF hs : R 5 s = some (9 + 2 * s)) ?_
      refine x_astore rfl ?_
      refine x_aload_n rfl ?_
      refine x_gr tg_3 rfl (fx_3_0 hF) ?_
      refine x_gr tg_4 rfl (fx_4_1 hF) ?_
      refine x_iload_n rfl ?_
      refine x_aald (by rw [tg_6]; decide) (ln_6 L) (by omega) (fx_po hF hf : R 6 f = some (7 + f)) ?_
      refine x_astore rfl ?_
      refine x_aload_n rfl ?_
      refine x_gr tg_3 rfl (fx_3_6 hF) ?_
      refine x_aload rfl ?_
      refine x_aload rfl ?_
      refine x_V3i tg_235 (Nat.le_of_ble_eq_true rfl) (ret_t hd (s0_fits (d := d + 1) hF hB (op_st hF hs) (po_st hf) (Sn_op hS hs) (fun j hj => Sn_po hS hf hj))) ?_
      exact rfl
    apply t_Q
    · apply t_K
      apply t_Qs
      apply t_B
      · exact rfl
      exact t_if_ne_t (by omega)
    apply t_Q
    · apply t_S
      refine x_aload_n rfl ?_
      refine x_gr tg_3 rfl (fx_3_6 hF) ?_
      refine x_aload rfl ?_
      refine x_aload rfl ?_
      refine x_V3v tg_235 (Nat.le_of_ble_eq_true rfl) (hap) ?_
      refine x_aload_n rfl ?_
      refine x_gr tg_3 rfl (fx_3_1 hF) ?_
      refine x_aload_n rfl ?_
      refine x_gr tg_3 rfl (fx_3_0 hF) ?_
      refine x_V2v tg_21 (Nat.le_of_ble_eq_true rfl) (ek) ?_
      refine x_aload_n rfl ?_
      refine x_gr tg_3 rfl (fx_3_6 hF) ?_
      refine x_gr tg_235 rfl (fx_235_2 hF) ?_
      refine x_iconst ?_
      refine x_aload_n rfl ?_
      refine x_gr tg_3 rfl (fx_3_0 hF) ?_
      refine x_gr tg_4 rfl (fx_4_1 hF) ?_
      refine x_iload_n rfl ?_
      refine x_aald (by rw [tg_6]; decide) (ln_6 L) (by omega) (fx_po hF hg : R 6 g = some (7 + g)) ?_
      refine x_iconst ?_
      refine x_bipush ?_
      refine x_acp (n := 31) tg_253 (po_st hg).1 (by rw [ln_253 L]; omega) (by rw [(po_st hg).2.1 L]; omega) (Nat.le_of_ble_eq_true rfl) ?_
      refine x_aload_n rfl ?_
      refine x_gr tg_3 rfl (fx_3_6 hF) ?_
      refine x_gr tg_235 rfl (fx_235_2 hF) ?_
      refine x_S1i (by decide) (Nat.le_of_ble_eq_true rfl) (hdg) ?_
      refine x_istore rfl ?_
      refine x_iload rfl ?_
      exact rfl
    apply t_Q
    · apply t_K
      apply t_Qs
      apply t_Ks
      · apply t_Q
        · apply t_B
          · exact rfl
          exact t_if_ge_f (by omega)
        apply t_B
        · refine x_sipush ?_
          exact rfl
        exact t_goto
      · decide
    apply t_B
    · exact rfl
    exact t_ireq (Or.inl rfl) rfl rfl
  · rw [if_neg q]
    apply Exists.intro
    unfold tX11_makes
    apply t_Q
    · apply t_S
      refine x_iload_n rfl ?_
      refine x_S1i (by decide) (Nat.le_of_ble_eq_true rfl) (ret_t (show 0 ≤ (g : Int) ∧ (g : Int) < 2 by omega) (s11_isPolynomial (d := d + 2) (by omega))) ?_
      exact rfl
    apply t_Q
    · apply t_K
      apply t_Qs
      apply t_Ks
      · apply t_Q
        · apply t_B
          · exact rfl
          exact t_if_eq_f (by omega)
        apply t_Q
        · apply t_B
          · refine x_iload_n rfl ?_
            refine x_S1i (by decide) (Nat.le_of_ble_eq_true rfl) (ret_t (show 0 ≤ (s : Int) ∧ (s : Int) < 6 by omega) (s11_isOperator (d := d + 2) (by omega))) ?_
            exact rfl
          exact t_if_eq_f (by omega)
        apply t_B
        · refine x_iload_n rfl ?_
          refine x_S1i (by decide) (Nat.le_of_ble_eq_true rfl) (ret_t (show 0 ≤ (f : Int) ∧ (f : Int) < 2 by omega) (s11_isPolynomial (d := d + 2) (by omega))) ?_
          exact rfl
        exact t_if_ne_t (by omega)
      · decide
    apply t_Q
    · apply t_S
      refine x_aload_n rfl ?_
      refine x_gr tg_3 rfl (fx_3_0 hF) ?_
      refine x_gr tg_4 rfl (fx_4_0 hF) ?_
      refine x_iload_n rfl ?_
      refine x_aald (by rw [tg_5]; decide) (ln_5 L) (by omega) (fx_op hF hs : R 5 s = some (9 + 2 * s)) ?_
      refine x_astore rfl ?_
      refine x_aload_n rfl ?_
      refine x_gr tg_3 rfl (fx_3_0 hF) ?_
      refine x_gr tg_4 rfl (fx_4_1 hF) ?_
      refine x_iload_n rfl ?_
      refine x_aald (by rw [tg_6]; decide) (ln_6 L) (by omega) (fx_po hF hf : R 6 f = some (7 + f)) ?_
      refine x_astore rfl ?_
      refine x_aload_n rfl ?_
      refine x_gr tg_3 rfl (fx_3_6 hF) ?_
      refine x_aload rfl ?_
      refine x_aload rfl ?_
      refine x_V3i tg_235 (Nat.le_of_ble_eq_true rfl) (ret_t hd (s0_fits (d := d + 1) hF hB (op_st hF hs) (po_st hf) (Sn_op hS hs) (fun j hj => Sn_po hS hf hj))) ?_
      exact rfl
    apply t_Q
    · apply t_K
      apply t_Qs
      apply t_B
      · exact rfl
      exact t_if_ne_t (by omega)
    apply t_Q
    · apply t_S
      refine x_aload_n rfl ?_
      refine x_gr tg_3 rfl (fx_3_6 hF) ?_
      refine x_aload rfl ?_
      refine x_aload rfl ?_
      refine x_V3v tg_235 (Nat.le_of_ble_eq_true rfl) (hap) ?_
      refine x_aload_n rfl ?_
      refine x_gr tg_3 rfl (fx_3_1 hF) ?_
      refine x_aload_n rfl ?_
      refine x_gr tg_3 rfl (fx_3_0 hF) ?_
      refine x_V2v tg_21 (Nat.le_of_ble_eq_true rfl) (ek) ?_
      refine x_aload_n rfl ?_
      refine x_gr tg_3 rfl (fx_3_6 hF) ?_
      refine x_gr tg_235 rfl (fx_235_2 hF) ?_
      refine x_iconst ?_
      refine x_aload_n rfl ?_
      refine x_gr tg_3 rfl (fx_3_0 hF) ?_
      refine x_gr tg_4 rfl (fx_4_1 hF) ?_
      refine x_iload_n rfl ?_
      refine x_aald (by rw [tg_6]; decide) (ln_6 L) (by omega) (fx_po hF hg : R 6 g = some (7 + g)) ?_
      refine x_iconst ?_
      refine x_bipush ?_
      refine x_acp (n := 31) tg_253 (po_st hg).1 (by rw [ln_253 L]; omega) (by rw [(po_st hg).2.1 L]; omega) (Nat.le_of_ble_eq_true rfl) ?_
      refine x_aload_n rfl ?_
      refine x_gr tg_3 rfl (fx_3_6 hF) ?_
      refine x_gr tg_235 rfl (fx_235_2 hF) ?_
      refine x_S1i (by decide) (Nat.le_of_ble_eq_true rfl) (hdg) ?_
      refine x_istore rfl ?_
      refine x_iload rfl ?_
      exact rfl
    apply t_Q
    · apply t_Ks
      · apply t_Q
        · apply t_K
          apply t_Qs
          apply t_B
          · exact rfl
          exact t_if_ge_t (by omega)
        apply t_S
        refine x_iload rfl ?_
        exact rfl
      · decide
    apply t_B
    · exact rfl
    exact t_ireq (Or.inl rfl) rfl rfl
set_option maxRecDepth 10000 in
theorem s11_kills_no {d L : Nat} {I : Nat → Nat → Int} {R : Nat → Nat → Option Nat} {u : Int64} (hF : FixR R) (hB : Tbc I) (hS : Sn I) {s f : Nat} (hs : s < 6) (hf : f < 2) (hd : zp (I (7 + f)) = 31) : am_run am_tb (d + 2) 106 [vR 3, vI s, vI f] (LH L I R u) = some ([vI (-20003)], LH L (rc I 1) R u) := by
  refine run_of tb_X11_kills (Nat.le_of_ble_eq_true rfl) ?_
  show ∃ ls', am_ev (am_run am_tb (d + 1)) tX11_kills ([vR 3, vI s, vI f, vU, vU, vU], [], (LH L I R u)) = some (1, ls', [vI (-20003)], LH L (rc I 1) R u)
  have hzl := zp_le (I (7 + f))
  apply Exists.intro
  unfold tX11_kills
  apply t_Q
  · apply t_S
    refine x_iload_n rfl ?_
    refine x_S1i (by decide) (Nat.le_of_ble_eq_true rfl) (ret_t (show 0 ≤ (s : Int) ∧ (s : Int) < 6 by omega) (s11_isOperator (d := d) (by omega))) ?_
    exact rfl
  apply t_Q
  · apply t_K
    apply t_Qs
    apply t_Ks
    · apply t_Q
      · apply t_B
        · exact rfl
        exact t_if_eq_f (by omega)
      apply t_B
      · refine x_iload_n rfl ?_
        refine x_S1i (by decide) (Nat.le_of_ble_eq_true rfl) (ret_t (show 0 ≤ (f : Int) ∧ (f : Int) < 2 by omega) (s11_isPolynomial (d := d) (by omega))) ?_
        exact rfl
      exact t_if_ne_t (by omega)
    · decide
  apply t_Q
  · apply t_S
    refine x_aload_n rfl ?_
    refine x_gr tg_3 rfl (fx_3_0 hF) ?_
    refine x_gr tg_4 rfl (fx_4_1 hF) ?_
    refine x_iload_n rfl ?_
    refine x_aald (by rw [tg_6]; decide) (ln_6 L) (by omega) (fx_po hF hf : R 6 f = some (7 + f)) ?_
    refine x_astore_n rfl ?_
    refine x_aload_n rfl ?_
    refine x_S1i (by decide) (Nat.le_of_ble_eq_true rfl) (s0_degree (d := d + 0) (po_st hf) (fun j hj => Sn_po hS hf hj)) ?_
    refine x_istore rfl ?_
    refine x_iload rfl ?_
    exact rfl
  apply t_Qs
  apply t_Ks
  · apply t_Q
    · apply t_B
      · exact rfl
      exact t_if_ge_f (by omega)
    apply t_B
    · refine x_aload_n rfl ?_
      refine x_V1i tg_3 (Nat.le_of_ble_eq_true rfl) (s11_no (d := d) hF) ?_
      exact rfl
    exact t_ireq (Or.inl rfl) rfl rfl
  · decide
set_option maxRecDepth 10000 in
theorem s11_kills_full {d L : Nat} {I : Nat → Nat → Int} {R : Nat → Nat → Option Nat} {u : Int64} (hF : FixR R) (hB : Tbc I) (hS : Sn I) {s f : Nat} (hs : s < 6) (hf : f < 2) (hd : zp (I (7 + f)) < 19) : am_run am_tb (d + 2) 106 [vR 3, vI s, vI f] (LH L I R u) = some ([vI (-20004)], LH L (rc I 2) R u) := by
  refine run_of tb_X11_kills (Nat.le_of_ble_eq_true rfl) ?_
  show ∃ ls', am_ev (am_run am_tb (d + 1)) tX11_kills ([vR 3, vI s, vI f, vU, vU, vU], [], (LH L I R u)) = some (1, ls', [vI (-20004)], LH L (rc I 2) R u)
  have hzl := zp_le (I (7 + f))
  apply Exists.intro
  unfold tX11_kills
  apply t_Q
  · apply t_S
    refine x_iload_n rfl ?_
    refine x_S1i (by decide) (Nat.le_of_ble_eq_true rfl) (ret_t (show 0 ≤ (s : Int) ∧ (s : Int) < 6 by omega) (s11_isOperator (d := d) (by omega))) ?_
    exact rfl
  apply t_Q
  · apply t_K
    apply t_Qs
    apply t_Ks
    · apply t_Q
      · apply t_B
        · exact rfl
        exact t_if_eq_f (by omega)
      apply t_B
      · refine x_iload_n rfl ?_
        refine x_S1i (by decide) (Nat.le_of_ble_eq_true rfl) (ret_t (show 0 ≤ (f : Int) ∧ (f : Int) < 2 by omega) (s11_isPolynomial (d := d) (by omega))) ?_
        exact rfl
      exact t_if_ne_t (by omega)
    · decide
  apply t_Q
  · apply t_S
    refine x_aload_n rfl ?_
    refine x_gr tg_3 rfl (fx_3_0 hF) ?_
    refine x_gr tg_4 rfl (fx_4_1 hF) ?_
    refine x_iload_n rfl ?_
    refine x_aald (by rw [tg_6]; decide) (ln_6 L) (by omega) (fx_po hF hf : R 6 f = some (7 + f)) ?_
    refine x_astore_n rfl ?_
    refine x_aload_n rfl ?_
    refine x_S1i (by decide) (Nat.le_of_ble_eq_true rfl) (s0_degree (d := d + 0) (po_st hf) (fun j hj => Sn_po hS hf hj)) ?_
    refine x_istore rfl ?_
    refine x_iload rfl ?_
    exact rfl
  apply t_Q
  · apply t_K
    apply t_Qs
    apply t_B
    · exact rfl
    exact t_if_ge_t (by omega)
  apply t_Q
  · apply t_S
    refine x_iload rfl ?_
    refine x_bipush ?_
    exact rfl
  apply t_Qs
  apply t_Ks
  · apply t_Q
    · apply t_B
      · exact rfl
      exact t_ic_le_f (by omega)
    apply t_B
    · refine x_aload_n rfl ?_
      refine x_V1i tg_3 (Nat.le_of_ble_eq_true rfl) (s11_full (d := d) hF) ?_
      exact rfl
    exact t_ireq (Or.inl rfl) rfl rfl
  · decide
/-- what kills a polynomial, its first n powers -/
def kiC (g : Nat → Int) (n : Nat) : Nat → Int := fun w => if dw w = 1 ∧ xw w < n then g (xw w) else if dw w = 0 ∧ xw w + 1 < n then (-((xw w + 1 : Nat) : Int) * g (xw w + 1)) % 10007 else 0
theorem kiC_b {g : Nat → Int} {n w : Nat} (hg : ∀ j, j < 31 → 0 ≤ g j ∧ g j < 10007) (hn : n ≤ 31) : 0 ≤ kiC g n w ∧ kiC g n w < 10007 := by
  unfold kiC
  split
  · exact hg _ (by omega)
  · split <;> omega
set_option maxRecDepth 10000 in
theorem lp11_kills {d L : Nat} {I : Nat → Nat → Int} {R : Nat → Nat → Option Nat} {u : Int64} (hF : FixR R) (hB : Tbc I) (hS : Sn I) {s f : Nat} (hs : s < 6) (hf : f < 2) : am_lp (am_ev (am_run am_tb (d + 3)) wX11_kills_67) 67 am_F ([vR 3, vI s, vI f, vR (7 + f), vI (30 - (zp (I (7 + f)) : Int)), vI 0], [], LH L (stc I 300 (kiC (I (7 + f)) 0)) R u) = some (124, [vR 3, vI s, vI f, vR (7 + f), vI (30 - (zp (I (7 + f)) : Int)), vI 12], [], LH L (stc I 300 (kiC (I (7 + f)) 12)) R u) := by
  have hzl := zp_le (I (7 + f))
  refine lp_up0 (fun n => ([vR 3, vI s, vI f, vR (7 + f), vI (30 - (zp (I (7 + f)) : Int)), vI n], [], LH L (stc I 300 (kiC (I (7 + f)) n)) R u)) 12 rfl (ltF (by omega)) (by show ¬ 124 = 67 + 2; decide) (fun n hn => ?_) ?_
  · have h1 := Sn_po hS hf (n := n) (by omega)
    have hp1 := pl_91 (i := n) (j := 1) (by omega)
    have hs1 := s6_setIn (d := d) (L := L) (u := u) (I := (stc I 300 (kiC (I (7 + f)) n))) (op_299 hF) (i := n) (j := 1) (by omega) (v := I (7 + f) n)
    have hnx : ∀ w, kiC (I (7 + f)) (n + 1) w = if w = pl n 1 then I (7 + f) n else if 0 < n ∧ w = pl (n - 1) 0 then (-(n : Int) * I (7 + f) n) % 10007 else kiC (I (7 + f)) n w := fun w => by
      by_cases e1 : w = pl n 1
      · rw [if_pos e1, e1]
        unfold kiC
        rw [xw_pl, dw_pl, if_pos ⟨rfl, by omega⟩]
      · rw [if_neg e1]
        by_cases e2 : 0 < n ∧ w = pl (n - 1) 0
        · rw [if_pos e2, e2.2]
          unfold kiC
          rw [xw_pl, dw_pl, if_neg (by omega), if_pos (by omega), show n - 1 + 1 = n by omega]
        · rw [if_neg e2]
          have n1 : ¬ (dw w = 1 ∧ xw w = n) := fun z => e1 (by rw [← pl_w w, z.1, z.2])
          have n2 : ¬ (dw w = 0 ∧ xw w + 1 = n) := fun z => e2 ⟨by omega, by rw [← pl_w w, z.1, show xw w = n - 1 by omega]⟩
          unfold kiC
          by_cases c1 : dw w = 1 ∧ xw w < n
          · rw [if_pos c1, if_pos (by omega)]
          · rw [if_neg c1, if_neg (by omega)]
            by_cases c2 : dw w = 0 ∧ xw w + 1 < n
            · rw [if_pos c2, if_pos (by omega)]
            · rw [if_neg c2, if_neg (by omega)]
    by_cases q0 : n = 0
    · have hg : au (stc I 300 (kiC (I (7 + f)) n)) 300 (au ((stc I 300 (kiC (I (7 + f)) n)) 300) (pl n 1) (I (7 + f) n)) = (stc I 300 (kiC (I (7 + f)) (n + 1))) := stc_w (t := pl n 1) (i := ((pl n 1 : Nat) : Int)) rfl hp1 (fun w hw => by rw [hnx, if_neg (show ¬ (0 < n ∧ w = pl (n - 1) 0) by omega)])
      rw [hg] at hs1
      generalize (stc I 300 (kiC (I (7 + f)) (n + 1))) = Z at *
      unfold wX11_kills_67
      apply t_Q
      · apply t_B
        · refine x_iload rfl ?_
          refine x_bipush ?_
          exact rfl
        exact t_ic_gt_f (by omega)
      apply t_Q
      · apply t_S
        refine x_aload_n rfl ?_
        refine x_gr tg_3 rfl (fx_3_9 hF) ?_
        refine x_iload rfl ?_
        refine x_iconst ?_
        refine x_aload_n rfl ?_
        refine x_iload rfl ?_
        refine x_ialdv (Or.inl (po_st hf).1) ((po_st hf).2.1 L) (by omega) (show _ = I (7 + f) n from congrFun (stc_o (by omega)) n) ?_
        refine x_V4v tg_299 (Nat.le_of_ble_eq_true rfl) (hs1) ?_
        refine x_iload rfl ?_
        exact rfl
      apply t_Q
      · apply t_K
        apply t_Qs
        apply t_B
        · exact rfl
        exact t_if_le_t (by omega)
      apply t_B
      · refine x_iinc rfl rfl ?_
        exact rfl
      exact t_goeq rfl
    · have hp2 := pl_91 (i := n - 1) (j := 0) (by omega)
      have hmb := mul_b (a := (n : Int)) (b := I (7 + f) n) (m := 12) (n := 10006) (by omega) (by omega)
      have hmn : -(n : Int) * I (7 + f) n = -((n : Int) * I (7 + f) n) := Int.neg_mul _ _
      have hs2 := s6_setIn (d := d) (L := L) (u := u) (I := au (stc I 300 (kiC (I (7 + f)) n)) 300 (au ((stc I 300 (kiC (I (7 + f)) n)) 300) (pl n 1) (I (7 + f) n))) (op_299 hF) (i := n - 1) (j := 0) (by omega) (v := (-(n : Int) * I (7 + f) n) % 10007)
      have hg1 : au (stc I 300 (kiC (I (7 + f)) n)) 300 (au ((stc I 300 (kiC (I (7 + f)) n)) 300) (pl n 1) (I (7 + f) n)) = stc I 300 (fun w => if w = pl n 1 then I (7 + f) n else kiC (I (7 + f)) n w) := stc_w (t := pl n 1) (i := ((pl n 1 : Nat) : Int)) rfl hp1 (fun w hw => rfl)
      have hg2 : au (stc I 300 (fun w => if w = pl n 1 then I (7 + f) n else kiC (I (7 + f)) n w)) 300 (au (stc I 300 (fun w => if w = pl n 1 then I (7 + f) n else kiC (I (7 + f)) n w) 300) (pl (n - 1) 0) ((-(n : Int) * I (7 + f) n) % 10007)) = (stc I 300 (kiC (I (7 + f)) (n + 1))) := stc_w (t := pl (n - 1) 0) (i := ((pl (n - 1) 0 : Nat) : Int)) rfl hp2 (fun w hw => by
        rw [hnx]
        by_cases e1 : w = pl (n - 1) 0
        · rw [if_pos e1, if_neg (fun z => by rw [z] at e1; have := (pl_inj e1).2; omega), if_pos ⟨by omega, e1⟩]
        · rw [if_neg e1]
          by_cases e2 : w = pl n 1
          · rw [if_pos e2, if_pos e2]
          · rw [if_neg e2, if_neg e2, if_neg (fun z => e1 z.2)])
      have hg3 : au (au (stc I 300 (kiC (I (7 + f)) n)) 300 (au ((stc I 300 (kiC (I (7 + f)) n)) 300) (pl n 1) (I (7 + f) n))) 300 (au (au (stc I 300 (kiC (I (7 + f)) n)) 300 (au ((stc I 300 (kiC (I (7 + f)) n)) 300) (pl n 1) (I (7 + f) n)) 300) (pl (n - 1) 0) ((-(n : Int) * I (7 + f) n) % 10007)) = (stc I 300 (kiC (I (7 + f)) (n + 1))) := by rw [hg1, hg2]
      rw [hg3] at hs2
      have hrs := s1_residue (d := d + 1) (h := LH L (au (stc I 300 (kiC (I (7 + f)) n)) 300 (au ((stc I 300 (kiC (I (7 + f)) n)) 300) (pl n 1) (I (7 + f) n))) R u) (v := -(n : Int) * I (7 + f) n) (by omega)
      generalize (stc I 300 (kiC (I (7 + f)) (n + 1))) = Z at *
      unfold wX11_kills_67
      apply t_Q
      · apply t_B
        · refine x_iload rfl ?_
          refine x_bipush ?_
          exact rfl
        exact t_ic_gt_f (by omega)
      apply t_Q
      · apply t_S
        refine x_aload_n rfl ?_
        refine x_gr tg_3 rfl (fx_3_9 hF) ?_
        refine x_iload rfl ?_
        refine x_iconst ?_
        refine x_aload_n rfl ?_
        refine x_iload rfl ?_
        refine x_ialdv (Or.inl (po_st hf).1) ((po_st hf).2.1 L) (by omega) (show _ = I (7 + f) n from congrFun (stc_o (by omega)) n) ?_
        refine x_V4v tg_299 (Nat.le_of_ble_eq_true rfl) (hs1) ?_
        refine x_iload rfl ?_
        exact rfl
      apply t_Q
      · apply t_Ks
        · apply t_Q
          · apply t_B
            · exact rfl
            exact t_if_le_f (by omega)
          apply t_S
          refine x_aload_n rfl ?_
          refine x_gr tg_3 rfl (fx_3_9 hF) ?_
          refine x_iload rfl ?_
          refine x_iconst ?_
          refine x_isub ?_
          rw [show (n : Int) - 1 = ((n - 1 : Nat) : Int) by omega]
          refine x_iconst ?_
          refine x_iload rfl ?_
          refine x_ineg ?_
          refine x_aload_n rfl ?_
          refine x_iload rfl ?_
          refine x_ialdv (Or.inl (po_st hf).1) ((po_st hf).2.1 L) (by omega) (show _ = I (7 + f) n from (congrFun (au_n _ _ (by omega)) n).trans (congrFun (stc_o (by omega)) n)) ?_
          refine x_imul ?_
          refine x_S1i (by decide) (Nat.le_of_ble_eq_true rfl) (hrs) ?_
          refine x_V4v tg_299 (Nat.le_of_ble_eq_true rfl) (hs2) ?_
          exact rfl
        · decide
      apply t_B
      · refine x_iinc rfl rfl ?_
        exact rfl
      exact t_goeq rfl
  · unfold wX11_kills_67
    apply t_Qs
    apply t_B
    · refine x_iload rfl ?_
      refine x_bipush ?_
      exact rfl
    exact t_ic_gt_t (by omega)
set_option maxRecDepth 10000 in
theorem s11_kills_ok {d L : Nat} {I : Nat → Nat → Int} {R : Nat → Nat → Option Nat} {u : Int64} (hF : FixR R) (hB : Tbc I) (hS : Sn I) {t n : Nat} (hH : Hi I t n) {s f : Nat} (hs : s < 6) (hf : f < 2) (hd : 19 ≤ zp (I (7 + f))) (hd2 : zp (I (7 + f)) < 31) : ∃ J, am_run am_tb (d + 5) 106 [vR 3, vI s, vI f] (LH L I R u) = some ([vI (cnt (kiC (I (7 + f)) 12) 496 : Nat)], LH L J R u) ∧ Cw I J t n (sopS (snow I 4) s (kiC (I (7 + f)) 12)) := by
  have hz := s6_makeZero (d := d + 2) (L := L) (u := u) (I := I) (op_299 hF)
  replace hz := ev_c hz (show _ = (stc I 300 (kiC (I (7 + f)) 0)) from stc_c (fun w hw => by unfold kiC; rw [if_neg (by omega), if_neg (by omega)]))
  have hl := lp11_kills (d := d + 1) (L := L) (u := u) hF hB hS hs hf
  have hM : Fc I (stc I 300 (kiC (I (7 + f)) 12)) := Fc_s (Fc_r I) (by unfold Sca; omega)
  obtain ⟨J, hr, hC⟩ := s11_rep (d := d) (L := L) (u := u) hF hM hH hs (f := kiC (I (7 + f)) 12) (fun j _ => kiC_b (fun j hj => Sn_po hS hf hj) (by omega)) (dgr_le (by decide) (fun v hv q => by
    have := xw_dw v
    unfold kiC
    rw [if_neg (by omega), if_neg (by omega)])) (fun j hj => stc_s hj)
  refine ⟨J, ?_, hC⟩
  generalize (stc I 300 (kiC (I (7 + f)) 12)) = Z at *
  generalize (stc I 300 (kiC (I (7 + f)) 0)) = Z0 at *
  generalize kiC (I (7 + f)) 12 = M at *
  refine run_of tb_X11_kills (Nat.le_of_ble_eq_true rfl) ?_
  show ∃ ls', am_ev (am_run am_tb (d + 4)) tX11_kills ([vR 3, vI s, vI f, vU, vU, vU], [], LH L I R u) = _
  apply Exists.intro
  unfold tX11_kills
  apply t_Q
  · apply t_S
    refine x_iload_n rfl ?_
    refine x_S1i (by decide) (Nat.le_of_ble_eq_true rfl) (ret_t (show 0 ≤ (s : Int) ∧ (s : Int) < 6 by omega) (s11_isOperator (d := d + 3) (by omega))) ?_
    exact rfl
  apply t_Q
  · apply t_K
    apply t_Qs
    apply t_Ks
    · apply t_Q
      · apply t_B
        · exact rfl
        exact t_if_eq_f (by omega)
      apply t_B
      · refine x_iload_n rfl ?_
        refine x_S1i (by decide) (Nat.le_of_ble_eq_true rfl) (ret_t (show 0 ≤ (f : Int) ∧ (f : Int) < 2 by omega) (s11_isPolynomial (d := d + 3) (by omega))) ?_
        exact rfl
      exact t_if_ne_t (by omega)
    · decide
  apply t_Q
  · apply t_S
    refine x_aload_n rfl ?_
    refine x_gr tg_3 rfl (fx_3_0 hF) ?_
    refine x_gr tg_4 rfl (fx_4_1 hF) ?_
    refine x_iload_n rfl ?_
    refine x_aald (by rw [tg_6]; decide) (ln_6 L) (by omega) (fx_po hF hf : R 6 f = some (7 + f)) ?_
    refine x_astore_n rfl ?_
    refine x_aload_n rfl ?_
    refine x_S1i (by decide) (Nat.le_of_ble_eq_true rfl) (s0_degree (d := d + 3) (po_st hf) (fun j hj => Sn_po hS hf hj)) ?_
    refine x_istore rfl ?_
    refine x_iload rfl ?_
    exact rfl
  apply t_Q
  · apply t_K
    apply t_Qs
    apply t_B
    · exact rfl
    exact t_if_ge_t (by omega)
  apply t_Q
  · apply t_S
    refine x_iload rfl ?_
    refine x_bipush ?_
    exact rfl
  apply t_Q
  · apply t_K
    apply t_Qs
    apply t_B
    · exact rfl
    exact t_ic_le_t (by omega)
  apply t_Q
  · apply t_S
    refine x_aload_n rfl ?_
    refine x_gr tg_3 rfl (fx_3_9 hF) ?_
    refine x_V1v tg_299 (Nat.le_of_ble_eq_true rfl) (hz) ?_
    refine x_iconst ?_
    refine x_istore rfl ?_
    exact rfl
  apply t_Q
  · apply t_K
    apply t_W
    exact hl
  apply t_B
  · refine x_aload_n rfl ?_
    refine x_iload_n rfl ?_
    refine x_V2i tg_3 (Nat.le_of_ble_eq_true rfl) (hr) ?_
    exact rfl
  exact t_ireq (Or.inl rfl) rfl rfl
