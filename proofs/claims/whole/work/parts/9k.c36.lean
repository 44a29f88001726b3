/-! The class: reduceTails. Written by wip/whole/gen_9k.py. -/
/-- all but k -/
def oth (k t : Nat) : Nat := if t < k then t else t + 1
def rtT (o : Int) (s : C6) (k : Nat) : C6 := (s.1, s.2.1, au s.2.2.1 k (rdC o (fun t => pl (s.2.2.2.1 (oth k t)) (s.2.2.2.2.1 (oth k t))) (s.1 - 1) (fun t => s.2.2.1 (oth k t)) (s.2.2.1 k)), s.2.2.2)
def rtL (o : Int) : Nat → C6 → C6
  | 0, s => s
  | k + 1, s => rtT o (rtL o k s) k
theorem Cst_uk {I J : Nat → Nat → Int} {R R' : Nat → Nat → Option Nat} {ρ : Nat → Nat} {o : Int} {s : C6} {f : Nat → Int} {q : Nat} (hC : CsS I R ρ o s) (hq : q < s.1 + s.2.1) (hJ : ∀ x, x < 159 ∨ 164 < x → x ≠ 224 + 2 * ρ q → J x = I x) (hR : R' 167 = R 167) (hf : Gv f) (hc : ∀ j, j < 91 → J (224 + 2 * ρ q) j = f j) : CsS J R' ρ o (s.1, s.2.1, au s.2.2.1 q f, s.2.2.2) := by
  obtain ⟨hP, c8, c9, c10, c6, cF, cl_, cs⟩ := hC
  have r0 := (hP.1 q (by omega)).2
  have j165 : J 165 = I 165 := hJ 165 (by omega) (by omega)
  refine ⟨⟨fun k hk => by rw [hR]; exact hP.1 k hk, hP.2⟩, by rw [j165]; exact c8, by rw [j165]; exact c9, by rw [j165]; exact c10, c6, fun k hk => ?_, fun k hk => by rw [hJ 168 (by omega) (by omega), hJ 169 (by omega) (by omega)]; exact cl_ k hk, fun k hk => by rw [hJ 170 (by omega) (by omega)]; exact cs k hk⟩
  have hk2 : k < s.1 + s.2.1 := hk
  show Gv (au s.2.2.1 q f k) ∧ ∀ j, j < 91 → J (224 + 2 * ρ k) j = au s.2.2.1 q f k j
  by_cases e : k = q
  · rw [e, au_s]; exact ⟨hf, hc⟩
  · rw [au_n _ _ e]
    have rk := (hP.1 k (by omega)).2
    refine ⟨(cF k hk2).1, fun j hj => ?_⟩
    rw [hJ _ (by omega) (fun z => e (hP.2 k q (by omega) (by omega) (by omega)))]
    exact (cF k hk2).2 j hj
def nk (k m : Nat) : Nat := if m ≤ k then m else m - 1
set_option maxRecDepth 10000 in
theorem lp3_rt {d L : Nat} {I : Nat → Nat → Int} {R : Nat → Nat → Option Nat} {u : Int64} (hF : FixR R) (hB : Tbc I) {ρ : Nat → Nat} {o : Int} (h0 : o = 0 ∨ o = 1) {s : C6} (hC : CsS I R ρ o s) (hK : ∀ k, k < s.1 → led o (s.2.2.1 k) = (pl (s.2.2.2.1 k) (s.2.2.2.2.1 k) : Nat)) {k : Nat} (hk : k < s.1) {I1 : Nat → Nat → Int} (h1 : ∀ x, x < 159 ∨ 164 < x → I1 x = I x) (hD0 : Dvc I1 R o 0 (fun t => 223 + 2 * ρ (oth k t)) (fun t => pl (s.2.2.2.1 (oth k t)) (s.2.2.2.2.1 (oth k t)))) : ∃ y, am_lp (am_ev (am_run am_tb (d + 4)) wX3_reduceTails_23) 23 am_F ([vR 165, vI (k : Nat), vI (0 : Nat)], [], LH L I1 R u) = some y ∧ ∃ J R', y = (57, [vR 165, vI (k : Nat), vI (s.1 : Nat)], [], LH L J R' u) ∧ Dvc J R' o (nk k s.1) (fun t => 223 + 2 * ρ (oth k t)) (fun t => pl (s.2.2.2.1 (oth k t)) (s.2.2.2.2.1 (oth k t))) ∧ (∀ x, x < 159 ∨ 164 < x → J x = I x) ∧ ∀ x, x ≠ 160 → R' x = R x := by
  have hn := hC.2.2.2.2.1
  have hP := hC.1
  refine lp_inv (fun m y => ∃ J R', y = ([vR 165, vI (k : Nat), vI (m : Nat)], [], LH L J R' u) ∧ Dvc J R' o (nk k m) (fun t => 223 + 2 * ρ (oth k t)) (fun t => pl (s.2.2.2.1 (oth k t)) (s.2.2.2.2.1 (oth k t))) ∧ (∀ x, x < 159 ∨ 164 < x → J x = I x) ∧ ∀ x, x ≠ 160 → R' x = R x) _ s.1 ⟨I1, R, rfl, hD0, h1, fun _ _ => rfl⟩ (ltF (by omega)) (fun m y hm hy => ?_) (fun y hy => ?_)
  · obtain ⟨J, R', e0, hD, j1, j2⟩ := hy
    subst e0
    have hF2 : FixR R' := FixR_m hF (fun a h _ _ => j2 a h)
    have hB2 : Tbc J := Tbc_o hB (fun a ha => j1 a (by unfold Nt at ha; omega))
    have h8 : J 165 8 = (s.1 : Int) := by rw [j1 165 (by omega)]; exact hC.2.1
    by_cases ek : m = k
    · have en : nk k (m + 1) = nk k m := by unfold nk; rw [if_neg (by omega), if_pos (by omega)]; omega
      refine ⟨([vR 165, vI (k : Nat), vI (m + 1 : Nat)], [], LH L J R' u), ?_, J, R', rfl, by rw [en]; exact hD, j1, j2⟩
      unfold wX3_reduceTails_23
      apply t_Q
      · apply t_B
        · refine x_iload_n rfl ?_
          refine x_aload_n rfl ?_
          refine x_giv tg_165 rfl (show _ = (s.1 : Int) from h8) ?_
          exact rfl
        exact t_ic_ge_f (by omega)
      apply t_Q
      · apply t_S
        refine x_iload_n rfl ?_
        refine x_iload_n rfl ?_
        exact rfl
      apply t_Q
      · apply t_K
        apply t_Qs
        apply t_B
        · exact rfl
        exact t_ic_eq_t (by omega)
      apply t_B
      · refine x_iinc rfl rfl ?_
        exact rfl
      exact t_goeq rfl
    · have rm := hP.1 m (by omega)
      have ec : J (224 + 2 * ρ m) = I (224 + 2 * ρ m) := j1 _ (by omega)
      have e24 : 223 + 2 * ρ m + 1 = 224 + 2 * ρ m := by omega
      have hnk : nk k m < 6 ∧ nk k (m + 1) = nk k m + 1 ∧ oth k (nk k m) = m := by
        unfold nk oth
        by_cases c : m ≤ k
        · rw [if_pos c, if_pos (show m + 1 ≤ k by omega), if_pos (show m < k by omega)]; omega
        · rw [if_neg c, if_neg (show ¬ m + 1 ≤ k by omega), if_neg (show ¬ m - 1 < k by omega)]; omega
      obtain ⟨J2, R2, htk, hD2, t1, t2⟩ := s4_take (d := d) (L := L) (u := u) (I := J) hF2 hB2 h0 hD hnk.1 (a := 223 + 2 * ρ m) (w := pl (s.2.2.2.1 m) (s.2.2.2.2.1 m)) (by rw [e24]; exact op_cm hF2 rm.2) (by omega) (by rw [e24]; exact fun j hj => by rw [ec]; exact Cst_r hC (by omega) j hj) (by rw [e24, cl_o ec, led_c (Cst_e hC (by omega))]; exact hK m hm)
      refine ⟨([vR 165, vI (k : Nat), vI (m + 1 : Nat)], [], LH L J2 R2 u), ?_, J2, R2, rfl, ?_, fun x hx => (t1 x hx).trans (j1 x hx), fun x hx => (t2 x hx).trans (j2 x hx)⟩
      · have hrk : R' 167 m = some (223 + 2 * ρ m) := by rw [j2 167 (by decide)]; exact rm.1
        unfold wX3_reduceTails_23
        apply t_Q
        · apply t_B
          · refine x_iload_n rfl ?_
            refine x_aload_n rfl ?_
            refine x_giv tg_165 rfl (show _ = (s.1 : Int) from h8) ?_
            exact rfl
          exact t_ic_ge_f (by omega)
        apply t_Q
        · apply t_S
          refine x_iload_n rfl ?_
          refine x_iload_n rfl ?_
          exact rfl
        apply t_Q
        · apply t_Ks
          · apply t_Q
            · apply t_B
              · exact rfl
              exact t_ic_eq_f (by omega)
            apply t_S
            refine x_aload_n rfl ?_
            refine x_gr tg_165 rfl (fx_165_1 hF2) ?_
            refine x_aload_n rfl ?_
            refine x_gr tg_165 rfl (fx_165_4 hF2) ?_
            refine x_iload_n rfl ?_
            refine x_aald (by rw [tg_167]; decide) (ln_167 L) (by omega) hrk ?_
            refine x_V2v tg_159 (Nat.le_of_ble_eq_true rfl) (htk) ?_
            exact rfl
          · decide
        apply t_B
        · refine x_iinc rfl rfl ?_
          exact rfl
        exact t_goeq rfl
      · rw [hnk.2.1]
        refine Dvc_c hD2 (fun t ht => ?_) (fun t ht => ?_)
        · by_cases e : t = nk k m
          · rw [e, au_s, hnk.2.2]
          · rw [au_n _ _ e]
        · by_cases e : t = nk k m
          · rw [e, au_s, hnk.2.2]
          · rw [au_n _ _ e]
  · obtain ⟨J, R', e0, h⟩ := hy
    subst e0
    have h8 : J 165 8 = (s.1 : Int) := by rw [h.2.1 165 (by omega)]; exact hC.2.1
    refine ⟨(57, [vR 165, vI (k : Nat), vI (s.1 : Nat)], [], LH L J R' u), ?_, by show ¬ 57 = 23 + 2; decide, J, R', rfl, h⟩
    unfold wX3_reduceTails_23
    apply t_Qs
    apply t_B
    · refine x_iload_n rfl ?_
      refine x_aload_n rfl ?_
      refine x_giv tg_165 rfl (show _ = (s.1 : Int) from h8) ?_
      exact rfl
    exact t_ic_ge_t (by omega)
set_option maxRecDepth 10000 in
theorem st3_rt {d L : Nat} {I : Nat → Nat → Int} {R : Nat → Nat → Option Nat} {u : Int64} (hF : FixR R) (hB : Tbc I) {ρ : Nat → Nat} {o : Int} (h0 : o = 0 ∨ o = 1) {s : C6} (hC : CsS I R ρ o s) (hK : ∀ k, k < s.1 → led o (s.2.2.1 k) = (pl (s.2.2.2.1 k) (s.2.2.2.2.1 k) : Nat)) (hNz : ∀ k, k < s.1 + s.2.1 → ∀ j, 91 ≤ j → s.2.2.1 k j = 0) {k : Nat} (hk : k < s.1) {l2 : am_V} : ∃ J R' l2', am_ev (am_run am_tb (d + 5)) wX3_reduceTails_2 ([vR 165, vI (k : Nat), l2], [], LH L I R u) = some (2 + 2, [vR 165, vI (k + 1 : Nat), l2'], [], LH L J R' u) ∧ CsS J R' ρ o (rtT o s k) ∧ Fcm I J ∧ ∀ x, x ≠ 160 → R' x = R x := by
  obtain ⟨hP, c8, c9, c10, c6, cF, cl_, cs⟩ := id hC
  have rw0 := hP.1 k (by omega)
  have hbg := s4_begin (d := d + 4) (L := L) (I := I) (R := R) (u := u) (o := o)
  obtain ⟨y, hl, J, R', ey, hD, j1, j2⟩ := lp3_rt (d := d + 1) (L := L) (u := u) hF hB h0 hC hK hk (I1 := au (au I 159 (au (I 159) 7 o)) 159 (au (au I 159 (au (I 159) 7 o) 159) 6 0)) (fun x hx => by rw [au_n _ _ (by omega), au_n _ _ (by omega)]) Dvc_0
  subst ey
  have enk : nk k s.1 = s.1 - 1 := if_neg (by omega)
  rw [enk] at hD
  have hF2 : FixR R' := FixR_m hF (fun a h _ _ => j2 a h)
  have hB2 : Tbc J := Tbc_o hB (fun a ha => j1 a (by unfold Nt at ha; omega))
  have ecw : J (224 + 2 * ρ k) = I (224 + 2 * ρ k) := j1 _ (by omega)
  have hot : ∀ t, t < s.1 - 1 → oth k t < s.1 ∧ oth k t ≠ k := fun t ht => by unfold oth; split <;> omega
  have hop : ∀ t, t < s.1 - 1 → (fun t => 223 + 2 * ρ (oth k t)) t + 1 ≠ 224 + 2 * ρ k := fun t ht z => by
    have z : 223 + 2 * ρ (oth k t) + 1 = 224 + 2 * ρ k := z
    have h := hot t ht
    exact h.2 (hP.2 (oth k t) k (by omega) (by omega) (by omega))
  have hrd := s4_reduce (d := d + 1) (L := L) (u := u) (I := J) hF2 hB2 h0 hD (op_cm hF2 rw0.2) (by omega) (by unfold Nt; omega) hop (fun j hj => by rw [ecw]; exact Cst_r hC (by omega) j hj)
  obtain ⟨f, hf⟩ : ∃ f, f = rdC o (fun t => pl (s.2.2.2.1 (oth k t)) (s.2.2.2.2.1 (oth k t))) (s.1 - 1) (fun t => s.2.2.1 (oth k t)) (s.2.2.1 k) := ⟨_, rfl⟩
  replace hrd := ev_c hrd (show _ = stc J (224 + 2 * ρ k) f from stc_c (fun v hv => by
    rw [hf]
    unfold rdC
    rw [if_pos hv]
    refine rdI_c (o := o) (ld := fun t => pl (s.2.2.2.1 (oth k t)) (s.2.2.2.2.1 (oth k t))) (b := s.1 - 1) (B := fun t => cl J (223 + 2 * ρ (oth k t) + 1)) (B' := fun t => s.2.2.1 (oth k t)) (f := J (224 + 2 * ρ k)) (f' := s.2.2.1 k) (fun t ht => ?_) (fun w hw => ?_) 91 (by omega) v hv
    · have h := hot t ht
      have rm := (hP.1 (oth k t) (by omega)).2
      show cl J (223 + 2 * ρ (oth k t) + 1) = s.2.2.1 (oth k t)
      rw [show 223 + 2 * ρ (oth k t) + 1 = 224 + 2 * ρ (oth k t) by omega, cl_o (j1 _ (by omega))]
      exact Cst_n hC hNz (by omega)
    · rw [ecw]; exact (cF k (by omega)).2 w hw))
  have hg : Gv f := by rw [hf]; exact Gv_rdC (cF k (by omega)).1.1
  have hCs : CsS (stc J (224 + 2 * ρ k) f) R' ρ o (rtT o s k) := by
    have := Cst_uk (J := stc J (224 + 2 * ρ k) f) (R' := R') (f := f) (q := k) hC (by omega) (fun x hx h2 => by rw [stc_o h2]; exact j1 x hx) (j2 167 (by decide)) hg (fun j hj => stc_s hj)
    rw [hf] at this ⊢
    exact this
  have key : ∃ l2', am_ev (am_run am_tb (d + 5)) wX3_reduceTails_2 ([vR 165, vI (k : Nat), l2], [], LH L I R u) = some (2 + 2, [vR 165, vI (k + 1 : Nat), l2'], [], LH L (stc J (224 + 2 * ρ k) f) R' u) := by
    apply Exists.intro
    have h8 : I 165 8 = (s.1 : Int) := c8
    have hrk : R' 167 k = some (223 + 2 * ρ k) := by rw [j2 167 (by decide)]; exact rw0.1
    unfold wX3_reduceTails_2
    apply t_Q
    · apply t_B
      · refine x_iload_n rfl ?_
        refine x_aload_n rfl ?_
        refine x_giv tg_165 rfl (show _ = (s.1 : Int) from h8) ?_
        exact rfl
      exact t_ic_ge_f (by omega)
    apply t_Q
    · apply t_S
      refine x_aload_n rfl ?_
      refine x_gr tg_165 rfl (fx_165_1 hF) ?_
      refine x_aload_n rfl ?_
      refine x_giv tg_165 rfl (show _ = o from c10) ?_
      refine x_V2v tg_159 (Nat.le_of_ble_eq_true rfl) (hbg) ?_
      refine x_iconst ?_
      refine x_istore_n rfl ?_
      exact rfl
    apply t_Q
    · apply t_K
      apply t_W
      exact hl
    apply t_B
    · refine x_aload_n rfl ?_
      refine x_gr tg_165 rfl (fx_165_1 hF2) ?_
      refine x_aload_n rfl ?_
      refine x_gr tg_165 rfl (fx_165_4 hF2) ?_
      refine x_iload_n rfl ?_
      refine x_aald (by rw [tg_167]; decide) (ln_167 L) (by omega) hrk ?_
      refine x_V2v tg_159 (Nat.le_of_ble_eq_true rfl) (hrd) ?_
      refine x_iinc rfl rfl ?_
      exact rfl
    exact t_goeq rfl
  obtain ⟨l2', key⟩ := key
  exact ⟨_, R', l2', key, hCs, ⟨fun a ha => by rw [stc_o (by omega)]; exact j1 a (by omega), by rw [stc_o (by omega), j1 165 (by omega)]⟩, j2⟩
theorem rtL_1 (o : Int) (k : Nat) (s : C6) : (rtL o k s).1 = s.1 ∧ (rtL o k s).2.1 = s.2.1 ∧ (rtL o k s).2.2.2 = s.2.2.2 := by
  induction k with
  | zero => exact ⟨rfl, rfl, rfl⟩
  | succ k ih => exact ih
set_option maxRecDepth 10000 in
theorem s3_tails {d L : Nat} {I : Nat → Nat → Int} {R : Nat → Nat → Option Nat} {u : Int64} (hF : FixR R) (hB : Tbc I) {ρ : Nat → Nat} {o : Int} (h0 : o = 0 ∨ o = 1) {s : C6} (hC : CsS I R ρ o s) (hG : ∀ k, k ≤ s.1 → (∀ m, m < s.1 → led o ((rtL o k s).2.2.1 m) = (pl (s.2.2.2.1 m) (s.2.2.2.2.1 m) : Nat)) ∧ ∀ m, m < s.1 + s.2.1 → ∀ j, 91 ≤ j → (rtL o k s).2.2.1 m j = 0) : ∃ J R', am_run am_tb (d + 6) 34 [vR 165] (LH L I R u) = some ([], LH L J R' u) ∧ CsS J R' ρ o (rtL o s.1 s) ∧ Fcm I J ∧ ∀ x, x ≠ 160 → R' x = R x := by
  have hn := hC.2.2.2.2.1
  have key : ∃ r, am_lp (am_ev (am_run am_tb (d + 5)) wX3_reduceTails_2) 2 am_F ([vR 165, vI 0, vU], [], LH L I R u) = some r ∧ ∃ J R' l2, r = (76, [vR 165, vI (s.1 : Nat), l2], [], LH L J R' u) ∧ CsS J R' ρ o (rtL o s.1 s) ∧ Fcm I J ∧ ∀ x, x ≠ 160 → R' x = R x := by
    refine lp_inv (fun k y => ∃ J R' l2, y = ([vR 165, vI (k : Nat), l2], [], LH L J R' u) ∧ CsS J R' ρ o (rtL o k s) ∧ Fcm I J ∧ ∀ x, x ≠ 160 → R' x = R x) _ s.1 ⟨I, R, vU, rfl, hC, Fcm_r I, fun _ _ => rfl⟩ (ltF (by omega)) (fun k y hk hy => ?_) (fun y hy => ?_)
    · obtain ⟨J, R', l2, e0, hCk, hFk, hRk⟩ := hy
      subst e0
      obtain ⟨e1, e2, e3⟩ := rtL_1 o k s
      have e4 : (rtL o k s).2.2.2.1 = s.2.2.2.1 := congrArg Prod.fst e3
      have e5 : (rtL o k s).2.2.2.2.1 = s.2.2.2.2.1 := congrArg (fun z => z.2.1) e3
      have hg := hG k (by omega)
      obtain ⟨J2, R2, l2', hst, hC2, hF2, hR2⟩ := st3_rt (d := d) (L := L) (u := u) (FixR_m hF (fun a h _ _ => hRk a h)) (Fcm_B hFk hB) h0 hCk (fun m hm => by rw [e4, e5]; exact hg.1 m (by omega)) (fun m hm => hg.2 m (by omega)) (k := k) (by omega) (l2 := l2)
      exact ⟨_, hst, J2, R2, l2', rfl, hC2, Fcm_t hFk hF2, fun x hx => (hR2 x hx).trans (hRk x hx)⟩
    · obtain ⟨J, R', l2, e0, hCk, hFk, hRk⟩ := hy
      subst e0
      obtain ⟨e1, e2, e3⟩ := rtL_1 o s.1 s
      have h8 : J 165 8 = (s.1 : Int) := by have := hCk.2.1; rw [e1] at this; exact this
      refine ⟨(76, [vR 165, vI (s.1 : Nat), l2], [], LH L J R' u), ?_, by show ¬ 76 = 2 + 2; decide, J, R', l2, rfl, hCk, hFk, hRk⟩
      unfold wX3_reduceTails_2
      apply t_Qs
      apply t_B
      · refine x_iload_n rfl ?_
        refine x_aload_n rfl ?_
        refine x_giv tg_165 rfl (show _ = (s.1 : Int) from h8) ?_
        exact rfl
      exact t_ic_ge_t (by omega)
  obtain ⟨r, hl, J, R', l2, er, h1, h2, h3⟩ := key
  subst er
  refine ⟨J, R', ?_, h1, h2, h3⟩
  refine run_of tb_X3_reduceTails (Nat.le_of_ble_eq_true rfl) ?_
  show ∃ ls', am_ev (am_run am_tb (d + 5)) tX3_reduceTails ([vR 165, vU, vU], [], LH L I R u) = _
  apply Exists.intro
  unfold tX3_reduceTails
  apply t_Q
  · apply t_S
    refine x_iconst ?_
    refine x_istore_n rfl ?_
    exact rfl
  apply t_Q
  · apply t_K
    apply t_W
    exact hl
  apply t_B
  · exact rfl
  exact rfl
