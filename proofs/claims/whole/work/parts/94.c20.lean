/-! The class: the divider. Written by wip/whole/gen_94.py. -/
/-- what is divided by: operators with their leads -/
def Dvc (I : Nat → Nat → Int) (R : Nat → Nat → Option Nat) (o : Int) (b : Nat) (op ld : Nat → Nat) : Prop := I 159 6 = (b : Nat) ∧ I 159 7 = o ∧ b ≤ 6 ∧ ∀ j, j < b → R 160 j = some (op j) ∧ Opx R (op j) (op j + 1) ∧ (op j + 1 < 159 ∨ 164 < op j + 1) ∧ Rsc I (op j + 1) ∧ ld j < 91 ∧ led o (cl I (op j + 1)) = (ld j : Nat) ∧ I 161 j = (xw (ld j) : Nat) ∧ I 162 j = (dw (ld j) : Nat) ∧ I 163 j = inv (I (op j + 1) (ld j)) ∧ I 164 j = (496 - zt (cl I (op j + 1)) : Nat)
theorem Dvc_c {I : Nat → Nat → Int} {R : Nat → Nat → Option Nat} {o : Int} {b : Nat} {op ld op' ld' : Nat → Nat} (h : Dvc I R o b op ld) (h1 : ∀ j, j < b → op j = op' j) (h2 : ∀ j, j < b → ld j = ld' j) : Dvc I R o b op' ld' := ⟨h.1, h.2.1, h.2.2.1, fun j hj => by rw [← h1 j hj, ← h2 j hj]; exact h.2.2.2 j hj⟩
/-- the target alone changes -/
theorem Dvc_J {I J : Nat → Nat → Int} {R : Nat → Nat → Option Nat} {o : Int} {b c : Nat} {op ld : Nat → Nat} (h : Dvc I R o b op ld) (hc : c < 159 ∨ 164 < c) (hop : ∀ j, j < b → op j + 1 ≠ c) (hJ : ∀ a, a ≠ c → J a = I a) : Dvc J R o b op ld := by
  refine ⟨by rw [hJ 159 (by omega)]; exact h.1, by rw [hJ 159 (by omega)]; exact h.2.1, h.2.2.1, fun j hj => ?_⟩
  obtain ⟨a1, a2, a3, a4, a5, a6, a7, a8, a9, a10⟩ := h.2.2.2 j hj
  have e := hJ _ (hop j hj)
  refine ⟨a1, a2, a3, fun k hk => by rw [e]; exact a4 k hk, a5, by rw [cl_o e]; exact a6, by rw [hJ 161 (by omega)]; exact a7, by rw [hJ 162 (by omega)]; exact a8, by rw [hJ 163 (by omega), e]; exact a9, by rw [hJ 164 (by omega), cl_o e]; exact a10⟩
set_option maxRecDepth 10000 in
theorem s4_begin {d L : Nat} {I : Nat → Nat → Int} {R : Nat → Nat → Option Nat} {u : Int64} {o : Int} : am_run am_tb (d + 1) 37 [vR 159, vI o] (LH L I R u) = some ([], LH L (au (au I 159 (au (I 159) 7 o)) 159 (au (au I 159 (au (I 159) 7 o) 159) 6 0)) R u) := by
  refine run_of tb_X4_begin (Nat.le_of_ble_eq_true rfl) ?_
  show ∃ ls', am_ev (am_run am_tb (d + 0)) tX4_begin ([vR 159, vI o], [], (LH L I R u)) = some (1, ls', [], LH L (au (au I 159 (au (I 159) 7 o)) 159 (au (au I 159 (au (I 159) 7 o) 159) 6 0)) R u)
  apply Exists.intro
  unfold tX4_begin
  apply t_B
  · refine x_aload_n rfl ?_
    refine x_iload_n rfl ?_
    refine x_pi tg_159 rfl rfl ?_
    refine x_aload_n rfl ?_
    refine x_iconst ?_
    refine x_pi tg_159 rfl rfl ?_
    exact rfl
  exact rfl
theorem Dvc_0 {I : Nat → Nat → Int} {R : Nat → Nat → Option Nat} {o : Int} {op ld : Nat → Nat} : Dvc (au (au I 159 (au (I 159) 7 o)) 159 (au (au I 159 (au (I 159) 7 o) 159) 6 0)) R o 0 op ld := ⟨by rw [au_s, au_s]; rfl, by rw [au_s, au_n _ _ (by decide), au_s, au_s], by decide, fun j hj => by omega⟩
theorem led_91 {I : Nat → Nat → Int} {c w : Nat} {o : Int} (hl : led o (cl I c) = (w : Nat)) : w < 91 ∧ I c w ≠ 0 := by
  obtain ⟨v, hv, e, hne, _⟩ := led_get (o := o) (f := cl I c) (by omega)
  have : v = w := by omega
  subst this
  have h9 : v < 91 := Nat.not_le.mp fun k => hne (cl_z k)
  rw [cl_s h9] at hne
  exact ⟨h9, hne⟩
set_option maxRecDepth 10000 in
theorem s4_take {d L : Nat} {I : Nat → Nat → Int} {R : Nat → Nat → Option Nat} {u : Int64} (hF : FixR R) (hB : Tbc I) {o : Int} (h0 : o = 0 ∨ o = 1) {b : Nat} {op ld : Nat → Nat} (hD : Dvc I R o b op ld) (hb : b < 6) {a w : Nat} (ha : Opx R a (a + 1)) (ha2 : a + 1 < 159 ∨ 164 < a + 1) (hc : Rsc I (a + 1)) (hl : led o (cl I (a + 1)) = (w : Nat)) : ∃ J R', am_run am_tb (d + 4) 38 [vR 159, vR a] (LH L I R u) = some ([], LH L J R' u) ∧ Dvc J R' o (b + 1) (au op b a) (au ld b w) ∧ (∀ x, x < 159 ∨ 164 < x → J x = I x) ∧ ∀ x, x ≠ 160 → R' x = R x := by
  have hw := led_91 hl
  have hF1 : FixR (au R 160 (au (R 160) b (some a))) := FixR_m hF (fun x h _ _ => au_n _ _ h)
  have ha1 : Opx (au R 160 (au (R 160) b (some a))) a (a + 1) := ⟨ha.1, by rw [au_n _ _ (fun z => by have := ha.1; rw [z, tg_160] at this; cases this)]; exact ha.2.1, ha.2.2⟩
  obtain ⟨J1, hJ1⟩ : ∃ J, J = au I 161 (au (I 161) b ((xw w : Nat) : Int)) := ⟨_, rfl⟩
  obtain ⟨J2, hJ2⟩ : ∃ J, J = au J1 162 (au (J1 162) b ((dw w : Nat) : Int)) := ⟨_, rfl⟩
  obtain ⟨J3, hJ3⟩ : ∃ J, J = au J2 163 (au (J2 163) b (inv (I (a + 1) w))) := ⟨_, rfl⟩
  obtain ⟨J4, hJ4⟩ : ∃ J, J = au J3 164 (au (J3 164) b ((496 - zt (cl I (a + 1)) : Nat) : Int)) := ⟨_, rfl⟩
  have f1 : ∀ x, x ≠ 161 → J1 x = I x := fun x hx => by rw [hJ1, au_n _ _ hx]
  have f2 : ∀ x, x ≠ 161 → x ≠ 162 → J2 x = I x := fun x hx h2 => by rw [hJ2, au_n _ _ h2, f1 x hx]
  have f3 : ∀ x, x ≠ 161 → x ≠ 162 → x ≠ 163 → J3 x = I x := fun x hx h2 h3 => by rw [hJ3, au_n _ _ h3, f2 x hx h2]
  have f4 : ∀ x, x ≠ 161 → x ≠ 162 → x ≠ 163 → x ≠ 164 → J4 x = I x := fun x hx h2 h3 h4 => by rw [hJ4, au_n _ _ h4, f3 x hx h2 h3]
  have h6 := hD.1
  have h7 := hD.2.1
  have hcr := hc w hw.1
  have hld := s6_leadPlace (d := d) (L := L) (u := u) hB.1 ha hc h0
  rw [hl] at hld
  have hiv := s1_inverse (d := d + 1) (L := L) (I := J2) (u := u) hF1 hcr
  have e3 : J3 (a + 1) = I (a + 1) := f3 _ (by omega) (by omega) (by omega)
  have hex := s6_extent (d := d + 2) (L := L) (I := J3) (u := u) ha1 (fun j hj => by rw [e3]; exact hc j hj)
  rw [cl_o e3] at hex
  have eb := ext_b (I := I) (c := a + 1)
  generalize hz : 496 - zt (cl I (a + 1)) = N at *
  have hfin : Dvc (au J4 159 (au (J4 159) 6 ((b : Int) + 1))) (au R 160 (au (R 160) b (some a))) o (b + 1) (au op b a) (au ld b w) := by
    refine ⟨by rw [au_s, au_s]; omega, by rw [au_s, au_n _ _ (by decide), f4 159 (by decide) (by decide) (by decide) (by decide)]; exact h7, by omega, fun j hj => ?_⟩
    by_cases e : j = b
    · subst e
      rw [au_s, au_s, au_s, au_s]
      have ec : ∀ J5 : Nat → Int, au J4 159 J5 (a + 1) = I (a + 1) := fun J5 => by rw [au_n _ _ (by omega), f4 _ (by omega) (by omega) (by omega) (by omega)]
      refine ⟨rfl, ha1, ha2, fun k hk => by rw [ec]; exact hc k hk, hw.1, by rw [cl_o (ec _)]; exact hl, ?_, ?_, ?_, ?_⟩
      · rw [au_n _ _ (by decide), hJ4, au_n _ _ (by decide), hJ3, au_n _ _ (by decide), hJ2, au_n _ _ (by decide), hJ1, au_s, au_s]
      · rw [au_n _ _ (by decide), hJ4, au_n _ _ (by decide), hJ3, au_n _ _ (by decide), hJ2, au_s, au_s]
      · rw [ec, au_n _ _ (by decide), hJ4, au_n _ _ (by decide), hJ3, au_s, au_s]
      · rw [cl_o (ec _), au_n _ _ (by decide), hJ4, au_s, au_s, hz]
    · obtain ⟨a1, a2, a3, a4, a5, a6, a7, a8, a9, a10⟩ := hD.2.2.2 j (by omega)
      rw [au_s, au_n _ _ e, au_n _ _ e, au_n _ _ e]
      have ec : ∀ J5 : Nat → Int, au J4 159 J5 (op j + 1) = I (op j + 1) := fun J5 => by rw [au_n _ _ (by omega), f4 _ (by omega) (by omega) (by omega) (by omega)]
      refine ⟨a1, ⟨a2.1, by rw [au_n _ _ (fun z => by have := a2.1; rw [z, tg_160] at this; cases this)]; exact a2.2.1, a2.2.2⟩, a3, fun k hk => by rw [ec]; exact a4 k hk, a5, by rw [cl_o (ec _)]; exact a6, ?_, ?_, ?_, ?_⟩
      · rw [au_n _ _ (by decide), hJ4, au_n _ _ (by decide), hJ3, au_n _ _ (by decide), hJ2, au_n _ _ (by decide), hJ1, au_s, au_n _ _ e]; exact a7
      · rw [au_n _ _ (by decide), hJ4, au_n _ _ (by decide), hJ3, au_n _ _ (by decide), hJ2, au_s, au_n _ _ e, f1 162 (by decide)]; exact a8
      · rw [ec, au_n _ _ (by decide), hJ4, au_n _ _ (by decide), hJ3, au_s, au_n _ _ e, f2 163 (by decide) (by decide)]; exact a9
      · rw [cl_o (ec _), au_n _ _ (by decide), hJ4, au_s, au_n _ _ e, f3 164 (by decide) (by decide) (by decide)]; exact a10
  refine ⟨_, _, ?_, hfin, fun x hx => by rw [au_n _ _ (by omega), f4 x (by omega) (by omega) (by omega) (by omega)], fun x hx => au_n _ _ hx⟩
  refine run_of tb_X4_take (Nat.le_of_ble_eq_true rfl) ?_
  show ∃ ls', am_ev (am_run am_tb (d + 3)) tX4_take ([vR 159, vR a, vU], [], LH L I R u) = _

  apply Exists.intro
  unfold tX4_take
  apply t_Q
  · apply t_S
    refine x_aload_n rfl ?_
    refine x_aload_n rfl ?_
    refine x_giv tg_159 rfl (show _ = o from h7) ?_
    refine x_V2i ha.1 (Nat.le_of_ble_eq_true rfl) (hld) ?_
    refine x_istore_n rfl ?_
    refine x_iload_n rfl ?_
    exact rfl
  apply t_Q
  · apply t_K
    apply t_Qs
    apply t_Ks
    · apply t_Q
      · apply t_B
        · exact rfl
        exact t_if_lt_f (by omega)
      apply t_B
      · refine x_aload_n rfl ?_
        refine x_giv tg_159 rfl (show _ = (b : Int) from h6) ?_
        refine x_bipush ?_
        exact rfl
      exact t_ic_lt_t (by omega)
    · decide
  apply t_B
  · refine x_aload_n rfl ?_
    refine x_gr tg_159 rfl (fx_159_1 hF) ?_
    refine x_aload_n rfl ?_
    refine x_giv tg_159 rfl (show _ = (b : Int) from h6) ?_
    refine x_aload_n rfl ?_
    refine x_aast tg_160 ⟨by decide, by decide, ha.1⟩ (ln_160 L) (by omega) ?_
    refine x_aload_n rfl ?_
    refine x_gr tg_159 rfl (fx_159_2 hF1) ?_
    refine x_aload_n rfl ?_
    refine x_giv tg_159 rfl (show _ = (b : Int) from h6) ?_
    refine x_getstatic ?_
    refine x_iload_n rfl ?_
    refine x_ialdv (Or.inr tg_1) (ln_1 L) (by omega) (show _ = ((xw w : Nat) : Int) from hB.1.1 _ hw.1) ?_
    refine x_iast tg_161 (ln_161 L) (by omega) ?_
    rw [Int.toNat_natCast, ← hJ1]
    refine x_aload_n rfl ?_
    refine x_gr tg_159 rfl (fx_159_3 hF1) ?_
    refine x_aload_n rfl ?_
    refine x_giv tg_159 rfl (show _ = (b : Int) from (by rw [f1 159 (by decide)]; exact h6)) ?_
    refine x_getstatic ?_
    refine x_iload_n rfl ?_
    refine x_ialdv (Or.inr tg_2) (ln_2 L) (by omega) (show _ = ((dw w : Nat) : Int) from (congrFun (f1 2 (by decide)) _).trans (hB.1.2 _ hw.1)) ?_
    refine x_iast tg_162 (ln_162 L) (by omega) ?_
    rw [Int.toNat_natCast, ← hJ2]
    refine x_aload_n rfl ?_
    refine x_gr tg_159 rfl (fx_159_4 hF1) ?_
    refine x_aload_n rfl ?_
    refine x_giv tg_159 rfl (show _ = (b : Int) from (by rw [f2 159 (by decide) (by decide)]; exact h6)) ?_
    refine x_aload_n rfl ?_
    refine x_gr ha1.1 rfl ha1.2.1 ?_
    refine x_iload_n rfl ?_
    refine x_ialdv (Or.inl ha1.2.2.1) (ha1.2.2.2 L) (by omega) (show _ = I (a + 1) w from (congrFun (f2 (a + 1) (by omega) (by omega)) _)) ?_
    refine x_S1i (by decide) (Nat.le_of_ble_eq_true rfl) (hiv) ?_
    refine x_iast tg_163 (ln_163 L) (by omega) ?_
    rw [Int.toNat_natCast, ← hJ3]
    refine x_aload_n rfl ?_
    refine x_gr tg_159 rfl (fx_159_5 hF1) ?_
    refine x_aload_n rfl ?_
    refine x_giv tg_159 rfl (show _ = (b : Int) from (by rw [f3 159 (by decide) (by decide) (by decide)]; exact h6)) ?_
    refine x_aload_n rfl ?_
    refine x_V1i ha.1 (Nat.le_of_ble_eq_true rfl) (hex) ?_
    refine x_iast tg_164 (ln_164 L) (by omega) ?_
    rw [Int.toNat_natCast, ← hJ4]
    refine x_aload_n rfl ?_
    refine x_dup rfl ?_
    refine x_giv tg_159 rfl (show _ = (b : Int) from (by rw [f4 159 (by decide) (by decide) (by decide) (by decide)]; exact h6)) ?_
    refine x_iconst ?_
    refine x_iadd ?_
    refine x_pi tg_159 rfl rfl ?_
    exact rfl
  exact rfl
/-- a word of a row is taken away by the first that fits -/
def cnS (ld : Nat → Nat) (b : Nat) (B : Nat → Nat → Int) (f : Nat → Int) (w : Nat) : Nat → Int := if fbl ld b w < b then (fun v => (f v + (10007 - f w) * inv (B (fbl ld b w) (ld (fbl ld b w))) % 10007 * cor (xw w - xw (ld (fbl ld b w))) (dw w - dw (ld (fbl ld b w))) (B (fbl ld b w)) 496 v) % 10007) else f
theorem cnS_b {ld : Nat → Nat} {b w : Nat} {B : Nat → Nat → Int} {f : Nat → Int} (hf : ∀ v, v < 91 → 0 ≤ f v ∧ f v < 10007) : ∀ v, v < 91 → 0 ≤ cnS ld b B f w v ∧ cnS ld b B f w v < 10007 := by
  intro v hv
  unfold cnS
  split
  · show 0 ≤ (f v + _) % 10007 ∧ (f v + _) % 10007 < 10007
    omega
  · exact hf v hv
set_option maxRecDepth 10000 in
theorem lp4_cancel {d L : Nat} {I : Nat → Nat → Int} {R : Nat → Nat → Option Nat} {u : Int64} (hF : FixR R) (hB : Tbc I) {o : Int} {b : Nat} {op ld : Nat → Nat} (hD : Dvc I R o b op ld) {t c w : Nat} (ht : Opx R t c) (hc2 : c < 159 ∨ 164 < c) (hN : Nt c) (hop : ∀ j, j < b → op j + 1 ≠ c) (hr : Rsc I c) (hw : w < 91) : ∃ x, am_lp (am_ev (am_run am_tb (d + 2)) wX4_cancel_16) 16 am_F ([vR 159, vR t, vI w, vI (xw w : Nat), vI (dw w : Nat), vI 0, vU, vU], [], LH L I R u) = some x ∧ ((∃ ls, x = (131, ls, [], LH L (stc I c (cnS ld b (fun j => cl I (op j + 1)) (I c) w)) R u)) ∨ ∃ ls, x = (1, ls, [], LH L (stc I c (cnS ld b (fun j => cl I (op j + 1)) (I c) w)) R u)) := by
  have hb6 := hD.2.2.1
  have hle := fbl_le ld b w
  have hw12 := wn_12 hw
  have hxd := xw_dw w
  refine lp_inv (fun k y => y = ([vR 159, vR t, vI w, vI (xw w : Nat), vI (dw w : Nat), vI k, vU, vU], [], LH L I R u)) _ (fbl ld b w) rfl (ltF (by omega)) (fun k y hk hy => ?_) (fun y hy => ?_)
  · subst hy
    have hno := fbl_no hk
    have hk12 := wn_12 (k := ld k) (hD.2.2.2 k (by omega)).2.2.2.2.1
    have hkx := xw_dw (ld k)
    refine ⟨([vR 159, vR t, vI w, vI (xw w : Nat), vI (dw w : Nat), vI ((k + 1 : Nat) : Int), vU, vU], [], LH L I R u), ?_, rfl⟩
    by_cases c1 : xw w < xw (ld k)
    · unfold wX4_cancel_16
      apply t_Q
      · apply t_B
        · refine x_iload rfl ?_
          refine x_aload_n rfl ?_
          refine x_giv tg_159 rfl (show _ = (b : Int) from hD.1) ?_
          exact rfl
        exact t_ic_ge_f (by omega)
      apply t_Q
      · apply t_S
        refine x_aload_n rfl ?_
        refine x_gr tg_159 rfl (fx_159_2 hF) ?_
        refine x_iload rfl ?_
        refine x_ialdv (Or.inl tg_161) (ln_161 L) (by omega) (show _ = ((xw (ld k) : Nat) : Int) from (hD.2.2.2 k (by omega)).2.2.2.2.2.2.1) ?_
        refine x_iload_n rfl ?_
        exact rfl
      apply t_Q
      · apply t_K
        apply t_Qs
        apply t_B
        · exact rfl
        exact t_ic_gt_t (by omega)
      apply t_B
      · refine x_iinc rfl rfl ?_
        exact rfl
      exact t_goeq rfl
    · have c2 : dw w < dw (ld k) := by omega
      unfold wX4_cancel_16
      apply t_Q
      · apply t_B
        · refine x_iload rfl ?_
          refine x_aload_n rfl ?_
          refine x_giv tg_159 rfl (show _ = (b : Int) from hD.1) ?_
          exact rfl
        exact t_ic_ge_f (by omega)
      apply t_Q
      · apply t_S
        refine x_aload_n rfl ?_
        refine x_gr tg_159 rfl (fx_159_2 hF) ?_
        refine x_iload rfl ?_
        refine x_ialdv (Or.inl tg_161) (ln_161 L) (by omega) (show _ = ((xw (ld k) : Nat) : Int) from (hD.2.2.2 k (by omega)).2.2.2.2.2.2.1) ?_
        refine x_iload_n rfl ?_
        exact rfl
      apply t_Q
      · apply t_K
        apply t_Q
        · apply t_B
          · exact rfl
          exact t_ic_gt_f (by omega)
        apply t_Qs
        apply t_B
        · refine x_aload_n rfl ?_
          refine x_gr tg_159 rfl (fx_159_3 hF) ?_
          refine x_iload rfl ?_
          refine x_ialdv (Or.inl tg_162) (ln_162 L) (by omega) (show _ = ((dw (ld k) : Nat) : Int) from (hD.2.2.2 k (by omega)).2.2.2.2.2.2.2.1) ?_
          refine x_iload rfl ?_
          exact rfl
        exact t_ic_gt_t (by omega)
      apply t_B
      · refine x_iinc rfl rfl ?_
        exact rfl
      exact t_goeq rfl
  · subst hy
    by_cases e : fbl ld b w = b
    · have hres : (stc I c (cnS ld b (fun j => cl I (op j + 1)) (I c) w)) = I := stc_id (fun v hv => by unfold cnS; rw [if_neg (by omega)])
      rw [hres]
      refine ⟨(131, [vR 159, vR t, vI w, vI (xw w : Nat), vI (dw w : Nat), vI (fbl ld b w), vU, vU], [], LH L I R u), ?_, by show ¬ 131 = 16 + 2; decide, Or.inl ⟨_, rfl⟩⟩
      rw [e]
      unfold wX4_cancel_16
      apply t_Qs
      apply t_B
      · refine x_iload rfl ?_
        refine x_aload_n rfl ?_
        refine x_giv tg_159 rfl (show _ = (b : Int) from hD.1) ?_
        exact rfl
      exact t_ic_ge_t (by omega)
    · have hlt : fbl ld b w < b := by omega
      have hyes := fbl_yes hlt
      have hresv : (stc I c (cnS ld b (fun j => cl I (op j + 1)) (I c) w)) = stc I c (fun v => (I c v + (10007 - I c w) * inv (I (op (fbl ld b w) + 1) (ld (fbl ld b w))) % 10007 * cor (xw w - xw (ld (fbl ld b w))) (dw w - dw (ld (fbl ld b w))) (cl I (op (fbl ld b w) + 1)) 496 v) % 10007) := stc_c (fun v hv => by
        unfold cnS
        rw [if_pos hlt]
        show (I c v + (10007 - I c w) * inv (cl I (op (fbl ld b w) + 1) (ld (fbl ld b w))) % 10007 * cor (xw w - xw (ld (fbl ld b w))) (dw w - dw (ld (fbl ld b w))) (cl I (op (fbl ld b w) + 1)) 496 v) % 10007 = _
        rw [cl_s (hD.2.2.2 _ hlt).2.2.2.2.1])
      rw [hresv]
      clear hresv
      generalize fbl ld b w = z at *
      obtain ⟨a1, a2, a3, a4, a5, a6, a7, a8, a9, a10⟩ := hD.2.2.2 z hlt
      have hk12 := wn_12 (k := ld z) a5
      have hkx := xw_dw (ld z)
      have hcw := hr w hw
      have hib := inv_b (v := I (op z + 1) (ld z))
      have m1 := mul_b (a := 10007 - I c w) (b := inv (I (op z + 1) (ld z))) (m := 10007) (n := 10006) (by omega) (by omega)
      have eb := ext_b (I := I) (c := op z + 1)
      obtain ⟨l2, hl2, hl3, hl4, hl5⟩ := led_get (o := o) (f := cl I (op z + 1)) (by omega)
      have el : l2 = ld z := by omega
      subst el
      have hcall := s1_addWord (d := d) (L := L) (u := u) hF hB ht a2 hN (hop z hlt) hr a4 (v := (10007 - I c w) * inv (I (op z + 1) (ld z)) % 10007) (by omega) (z := pl (xw w - xw (ld z)) (dw w - dw (ld z))) (n := 496 - zt (cl I (op z + 1))) (pl_91 (by omega)) (by omega) (fun k hk hne => by
        have h9 : k < 91 := by omega
        have := rk_le_wn (hl5 k (by omega) (by rw [cl_s h9]; exact hne))
        rw [wn_pl]
        omega)
      rw [xw_pl, dw_pl] at hcall
      replace hcall := ev_c hcall (show _ = stc I c (fun v => (I c v + (10007 - I c w) * inv (I (op z + 1) (ld z)) % 10007 * cor (xw w - xw (ld z)) (dw w - dw (ld z)) (cl I (op z + 1)) 496 v) % 10007) from stc_c (fun v hv => by rw [← cor_ext (by omega) (fun k h1 h2 => ext_z h1 h2)]))
      generalize stc I c (fun v => (I c v + (10007 - I c w) * inv (I (op z + 1) (ld z)) % 10007 * cor (xw w - xw (ld z)) (dw w - dw (ld z)) (cl I (op z + 1)) 496 v) % 10007) = Z at *
      have key : ∃ ls, am_ev (am_run am_tb (d + 2)) wX4_cancel_16 ([vR 159, vR t, vI w, vI (xw w : Nat), vI (dw w : Nat), vI z, vU, vU], [], LH L I R u) = some (1, ls, [], LH L Z R u) := by
        apply Exists.intro
        unfold wX4_cancel_16
        apply t_Q
        · apply t_B
          · refine x_iload rfl ?_
            refine x_aload_n rfl ?_
            refine x_giv tg_159 rfl (show _ = (b : Int) from hD.1) ?_
            exact rfl
          exact t_ic_ge_f (by omega)
        apply t_Q
        · apply t_S
          refine x_aload_n rfl ?_
          refine x_gr tg_159 rfl (fx_159_2 hF) ?_
          refine x_iload rfl ?_
          refine x_ialdv (Or.inl tg_161) (ln_161 L) (by omega) (show _ = ((xw (ld z) : Nat) : Int) from (hD.2.2.2 z (by omega)).2.2.2.2.2.2.1) ?_
          refine x_iload_n rfl ?_
          exact rfl
        apply t_Qs
        apply t_Ks
        · apply t_Q
          · apply t_B
            · exact rfl
            exact t_ic_gt_f (by omega)
          apply t_Q
          · apply t_B
            · refine x_aload_n rfl ?_
              refine x_gr tg_159 rfl (fx_159_3 hF) ?_
              refine x_iload rfl ?_
              refine x_ialdv (Or.inl tg_162) (ln_162 L) (by omega) (show _ = ((dw (ld z) : Nat) : Int) from (hD.2.2.2 z (by omega)).2.2.2.2.2.2.2.1) ?_
              refine x_iload rfl ?_
              exact rfl
            exact t_ic_gt_f (by omega)
          apply t_B
          · refine x_sipush ?_
            refine x_aload_n rfl ?_
            refine x_gr ht.1 rfl ht.2.1 ?_
            refine x_iload_n rfl ?_
            refine x_ialdv (Or.inl ht.2.2.1) (ht.2.2.2 L) (by omega) (show _ = I c w from congrArg (I c) (Int.toNat_natCast w)) ?_
            refine x_isub ?_
            refine x_aload_n rfl ?_
            refine x_gr tg_159 rfl (fx_159_4 hF) ?_
            refine x_iload rfl ?_
            refine x_ialdv (Or.inl tg_163) (ln_163 L) (by omega) (show _ = inv (I (op z + 1) (ld z)) from (hD.2.2.2 z (by omega)).2.2.2.2.2.2.2.2.1) ?_
            refine x_imul ?_
            refine x_sipush ?_
            refine x_irem0 (by omega) ?_
            refine x_istore rfl ?_
            refine x_iload_n rfl ?_
            refine x_aload_n rfl ?_
            refine x_gr tg_159 rfl (fx_159_2 hF) ?_
            refine x_iload rfl ?_
            refine x_ialdv (Or.inl tg_161) (ln_161 L) (by omega) (show _ = ((xw (ld z) : Nat) : Int) from (hD.2.2.2 z (by omega)).2.2.2.2.2.2.1) ?_
            refine x_isub ?_
            rw [show ((xw w : Nat) : Int) - ((xw (ld z) : Nat) : Int) = ((xw w - xw (ld z) : Nat) : Int) by omega]
            refine x_iload rfl ?_
            refine x_aload_n rfl ?_
            refine x_gr tg_159 rfl (fx_159_3 hF) ?_
            refine x_iload rfl ?_
            refine x_ialdv (Or.inl tg_162) (ln_162 L) (by omega) (show _ = ((dw (ld z) : Nat) : Int) from (hD.2.2.2 z (by omega)).2.2.2.2.2.2.2.1) ?_
            refine x_isub ?_
            rw [show ((dw w : Nat) : Int) - ((dw (ld z) : Nat) : Int) = ((dw w - dw (ld z) : Nat) : Int) by omega]
            refine x_S2i (by decide) (Nat.le_of_ble_eq_true rfl) (s6_placeOf (d := d) (i := xw w - xw (ld z)) (j := dw w - dw (ld z)) (by omega)) ?_
            refine x_istore rfl ?_
            refine x_aload_n rfl ?_
            refine x_gr tg_159 rfl (fx_159_0 hF) ?_
            refine x_aload_n rfl ?_
            refine x_iload rfl ?_
            refine x_iload rfl ?_
            refine x_aload_n rfl ?_
            refine x_gr tg_159 rfl (fx_159_1 hF) ?_
            refine x_iload rfl ?_
            refine x_aald (by rw [tg_160]; decide) (ln_160 L) (by omega) a1 ?_
            refine x_aload_n rfl ?_
            refine x_gr tg_159 rfl (fx_159_5 hF) ?_
            refine x_iload rfl ?_
            refine x_ialdv (Or.inl tg_164) (ln_164 L) (by omega) (show _ = ((496 - zt (cl I (op z + 1)) : Nat) : Int) from (hD.2.2.2 z (by omega)).2.2.2.2.2.2.2.2.2) ?_
            refine x_V6v tg_110 (Nat.le_of_ble_eq_true rfl) (hcall) ?_
            exact rfl
          exact rfl
        · decide
      obtain ⟨ls, key⟩ := key
      exact ⟨_, key, by show ¬ 1 = 16 + 2; decide, Or.inr ⟨ls, rfl⟩⟩
set_option maxRecDepth 10000 in
theorem s4_cancel {d L : Nat} {I : Nat → Nat → Int} {R : Nat → Nat → Option Nat} {u : Int64} (hF : FixR R) (hB : Tbc I) {o : Int} {b : Nat} {op ld : Nat → Nat} (hD : Dvc I R o b op ld) {t c w : Nat} (ht : Opx R t c) (hc2 : c < 159 ∨ 164 < c) (hN : Nt c) (hop : ∀ j, j < b → op j + 1 ≠ c) (hr : Rsc I c) (hw : w < 91) : am_run am_tb (d + 3) 40 [vR 159, vR t, vI w] (LH L I R u) = some ([], LH L (stc I c (cnS ld b (fun j => cl I (op j + 1)) (I c) w)) R u) := by
  refine run_of tb_X4_cancel (Nat.le_of_ble_eq_true rfl) ?_
  show ∃ ls', am_ev (am_run am_tb (d + 2)) tX4_cancel ([vR 159, vR t, vI w, vU, vU, vU, vU, vU], [], (LH L I R u)) = some (1, ls', [], LH L (stc I c (cnS ld b (fun j => cl I (op j + 1)) (I c) w)) R u)
  obtain ⟨x, hl, h⟩ := lp4_cancel (d := d) (L := L) (u := u) hF hB hD ht hc2 hN hop hr hw
  rcases h with ⟨ls, ex⟩ | ⟨ls, ex⟩
  · subst ex
    apply Exists.intro
    unfold tX4_cancel
    apply t_Q
    · apply t_S
      refine x_getstatic ?_
      refine x_iload_n rfl ?_
      refine x_ialdv (Or.inr tg_1) (ln_1 L) (by omega) (show _ = ((xw w : Nat) : Int) from hB.1.1 _ hw) ?_
      refine x_istore_n rfl ?_
      refine x_getstatic ?_
      refine x_iload_n rfl ?_
      refine x_ialdv (Or.inr tg_2) (ln_2 L) (by omega) (show _ = ((dw w : Nat) : Int) from hB.1.2 _ hw) ?_
      refine x_istore rfl ?_
      refine x_iconst ?_
      refine x_istore rfl ?_
      exact rfl
    apply t_Q
    · apply t_K
      apply t_W
      exact hl
    apply t_B
    · exact rfl
    exact rfl
  · subst ex
    apply Exists.intro
    unfold tX4_cancel
    apply t_Q
    · apply t_S
      refine x_getstatic ?_
      refine x_iload_n rfl ?_
      refine x_ialdv (Or.inr tg_1) (ln_1 L) (by omega) (show _ = ((xw w : Nat) : Int) from hB.1.1 _ hw) ?_
      refine x_istore_n rfl ?_
      refine x_getstatic ?_
      refine x_iload_n rfl ?_
      refine x_ialdv (Or.inr tg_2) (ln_2 L) (by omega) (show _ = ((dw w : Nat) : Int) from hB.1.2 _ hw) ?_
      refine x_istore rfl ?_
      refine x_iconst ?_
      refine x_istore rfl ?_
      exact rfl
    apply t_Qs
    apply t_Ks
    · apply t_W
      exact hl
    · decide
