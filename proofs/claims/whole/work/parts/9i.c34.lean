/-! The class: absorb, whole. Written by wip/whole/gen_9i.py. -/
/-- the first waiting row becomes another one -/
theorem Cst_u {I J : Nat → Nat → Int} {R R' : Nat → Nat → Option Nat} {ρ : Nat → Nat} {o : Int} {s : C6} {f : Nat → Int} (hC : CsS I R ρ o s) (hω : 1 ≤ s.2.1) (hJ : ∀ x, x < 159 ∨ 164 < x → x ≠ 224 + 2 * ρ s.1 → J x = I x) (hR : R' 167 = R 167) (hf : Gv f) (hc : ∀ j, j < 91 → J (224 + 2 * ρ s.1) j = f j) : CsS J R' ρ o (s.1, s.2.1, au s.2.2.1 s.1 f, s.2.2.2) := by
  obtain ⟨hP, c8, c9, c10, c6, cF, cl_, cs⟩ := hC
  have r0 := (hP.1 s.1 (by omega)).2
  have j165 : J 165 = I 165 := hJ 165 (by omega) (by omega)
  refine ⟨⟨fun k hk => by rw [hR]; exact hP.1 k hk, hP.2⟩, by rw [j165]; exact c8, by rw [j165]; exact c9, by rw [j165]; exact c10, c6, fun k hk => ?_, fun k hk => by rw [hJ 168 (by omega) (by omega), hJ 169 (by omega) (by omega)]; exact cl_ k hk, fun k hk => by rw [hJ 170 (by omega) (by omega)]; exact cs k hk⟩
  have hk2 : k < s.1 + s.2.1 := hk
  show Gv (au s.2.2.1 s.1 f k) ∧ ∀ j, j < 91 → J (224 + 2 * ρ k) j = au s.2.2.1 s.1 f k j
  by_cases e : k = s.1
  · rw [e, au_s]; exact ⟨hf, hc⟩
  · rw [au_n _ _ e]
    have rk := (hP.1 k (by omega)).2
    refine ⟨(cF k hk2).1, fun j hj => ?_⟩
    rw [hJ _ (by omega) (fun z => e (hP.2 k s.1 (by omega) (by omega) (by omega)))]
    exact (cF k hk2).2 j hj
theorem Cst_n {I : Nat → Nat → Int} {R : Nat → Nat → Option Nat} {ρ : Nat → Nat} {o : Int} {s : C6} (hC : CsS I R ρ o s) (hNz : ∀ k, k < s.1 + s.2.1 → ∀ j, 91 ≤ j → s.2.2.1 k j = 0) {k : Nat} (hk : k < s.1 + s.2.1) : cl I (224 + 2 * ρ k) = s.2.2.1 k := by
  funext j
  by_cases h : j < 91
  · rw [cl_s h]; exact (hC.2.2.2.2.2.1 k hk).2 j h
  · rw [cl_z (by omega), hNz k hk j (by omega)]
theorem abM_G {o : Int} {f : Nat → Int} (hd : dgr f ≤ 12) : Gv (abM o f) := by
  refine ⟨fun k _ => by unfold abM; omega, dgr_le (by decide) (fun w hw q => ?_)⟩
  unfold abM
  rw [dgr_z (f := f) hw (by omega), Int.zero_mul]
  rfl
theorem Gv_rdC {o : Int} {ld : Nat → Nat} {b : Nat} {B : Nat → Nat → Int} {f : Nat → Int} (hf : resd f) : Gv (rdC o ld b B f) := ⟨fun k _ => rdC_b (fun v hv => hf v (by omega)) k, rdC_d⟩
/-- two rows of references change places -/
theorem Pr6_sw {R R' : Nat → Nat → Option Nat} {ρ : Nat → Nat} (h : Pr6 R ρ) {i r : Nat} (hi : i < 6) (hr : r < 6) (e : R' 167 = au (au (R 167) i (some (223 + 2 * ρ r))) r (some (223 + 2 * ρ i))) : Pr6 R' (fun k => ρ (swp i r k)) := by
  refine ⟨fun k hk => ?_, fun k l hk hl he => ?_⟩
  · refine ⟨?_, (h.1 (swp i r k) (swp_lt hi hr hk)).2⟩
    rw [e]
    show _ = some (223 + 2 * ρ (if k = i then r else if k = r then i else k))
    by_cases e1 : k = r
    · rw [e1, au_s]
      by_cases e2 : r = i
      · rw [if_pos e2, e2]
      · rw [if_neg e2, if_pos rfl]
    · rw [au_n _ _ e1]
      by_cases e2 : k = i
      · rw [e2, au_s, if_pos rfl]
      · rw [au_n _ _ e2, if_neg e2, if_neg e1]; exact (h.1 k hk).1
  · have := h.2 _ _ (swp_lt hi hr hk) (swp_lt hi hr hl) he
    rw [← swp_swp i r k, this, swp_swp]
theorem dsL_w (i j k : Nat) (s : C6) (h : 1 ≤ s.2.1) : 1 ≤ (dsL i j k s).2.1 := by
  induction k generalizing s with
  | zero => exact h
  | succ k ih =>
    show 1 ≤ (dsL i j k (if i ≤ s.2.2.2.1 k ∧ j ≤ s.2.2.2.2.1 k then dmP k s else s)).2.1
    refine ih _ ?_
    split
    · show 1 ≤ s.2.1 + 1; omega
    · exact h
set_option maxRecDepth 10000 in
theorem s3_absorb {d L : Nat} {I : Nat → Nat → Int} {R : Nat → Nat → Option Nat} {u : Int64} (hF : FixR R) (hB : Tbc I) {ρ : Nat → Nat} {o : Int} (h0 : o = 0 ∨ o = 1) {s : C6} (hC : CsS I R ρ o s) (hK : ∀ k, k < s.1 → led o (s.2.2.1 k) = (pl (s.2.2.2.1 k) (s.2.2.2.2.1 k) : Nat)) (hNz : ∀ k, k < s.1 + s.2.1 → ∀ j, 91 ≤ j → s.2.2.1 k j = 0) (hω : 1 ≤ s.2.1) : ∃ J R' ρ', am_run am_tb (d + 6) 28 [vR 165] (LH L I R u) = some ([], LH L J R' u) ∧ CsS J R' ρ' o (abP o s) ∧ Fcm I J ∧ ∀ x, x ≠ 160 → x ≠ 167 → R' x = R x := by
  obtain ⟨hP, c8, c9, c10, c6, cF, cl_, cs⟩ := id hC
  have rw0 := hP.1 s.1 (by omega)
  have hbg := s4_begin (d := d + 4) (L := L) (I := I) (R := R) (u := u) (o := o)
  obtain ⟨y, hl, J, R', ey, hD, j1, j2⟩ := lp3_take (d := d + 1) (L := L) (u := u) hF hB h0 hC hK (I1 := au (au I 159 (au (I 159) 7 o)) 159 (au (au I 159 (au (I 159) 7 o) 159) 6 0)) (fun x hx => by rw [au_n _ _ (by omega), au_n _ _ (by omega)]) Dvc_0
  subst ey
  have hF2 : FixR R' := FixR_m hF (fun a h _ _ => j2 a h)
  have hB2 : Tbc J := Tbc_o hB (fun a ha => j1 a (by unfold Nt at ha; omega))
  have ecw : J (224 + 2 * ρ s.1) = I (224 + 2 * ρ s.1) := j1 _ (by omega)
  have hop : ∀ m, m < s.1 → (fun m => 223 + 2 * ρ m) m + 1 ≠ 224 + 2 * ρ s.1 := fun m hm z => by
    have z : 223 + 2 * ρ m + 1 = 224 + 2 * ρ s.1 := z
    have := hP.2 m s.1 (by omega) (by omega) (by omega)
    omega
  have hrd := s4_reduce (d := d + 1) (L := L) (u := u) (I := J) hF2 hB2 h0 hD (op_cm hF2 rw0.2) (by omega) (by unfold Nt; omega) hop (fun j hj => by rw [ecw]; exact Cst_r hC (by omega) j hj)
  replace hrd := ev_c hrd (show _ = stc J (224 + 2 * ρ s.1) (abR o s) from stc_c (fun v hv => by
    unfold abR rdC
    rw [if_pos hv]
    refine rdI_c (o := o) (ld := fun m => pl (s.2.2.2.1 m) (s.2.2.2.2.1 m)) (b := s.1) (B := fun m => cl J (223 + 2 * ρ m + 1)) (B' := s.2.2.1) (f := J (224 + 2 * ρ s.1)) (f' := s.2.2.1 s.1) (fun m hm => ?_) (fun w hw => ?_) 91 (by omega) v hv
    · have rm := (hP.1 m (by omega)).2
      show cl J (223 + 2 * ρ m + 1) = s.2.2.1 m
      rw [show 223 + 2 * ρ m + 1 = 224 + 2 * ρ m by omega, cl_o (j1 _ (by omega))]
      exact Cst_n hC hNz (by omega)
    · rw [ecw]; exact (cF s.1 (by omega)).2 w hw))
  have hgR : Gv (abR o s) := Gv_rdC (cF s.1 (by omega)).1.1
  have hzR : ∀ w, 91 ≤ w → abR o s w = 0 := fun w hw => if_neg (by omega)
  obtain ⟨K, hKe⟩ : ∃ K, K = stc J (224 + 2 * ρ s.1) (abR o s) := ⟨_, rfl⟩
  rw [← hKe] at hrd
  have kf : ∀ x, x < 159 ∨ 164 < x → x ≠ 224 + 2 * ρ s.1 → K x = I x := fun x hx h2 => by rw [hKe, stc_o h2]; exact j1 x hx
  have kc : ∀ j, j < 91 → K (224 + 2 * ρ s.1) j = abR o s j := fun j hj => by rw [hKe, stc_s hj]
  have kcl : cl K (224 + 2 * ρ s.1) = abR o s := by
    funext j
    by_cases h : j < 91
    · rw [cl_s h, kc j h]
    · rw [cl_z (by omega), hzR j (by omega)]
  have kr : Rsc K (224 + 2 * ρ s.1) := fun j hj => by rw [kc j hj]; exact hgR.1 j (by omega)
  have hBK : Tbc K := Tbc_o hB (fun a ha => kf a (by unfold Nt at ha; omega) (by unfold Nt at ha; omega))
  have k165 : K 165 = I 165 := kf 165 (by omega) (by omega)
  have k8 : K 165 8 = (s.1 : Int) := by rw [k165]; exact c8
  have k9 : K 165 9 = (s.2.1 : Int) := by rw [k165]; exact c9
  have k10 : K 165 10 = o := by rw [k165]; exact c10
  have hKF : Fcm I K := ⟨fun a ha => kf a (by omega) (by omega), by rw [k165]⟩
  have hld := s6_leadPlace (d := d + 2) (L := L) (u := u) hBK.1 (op_cm hF2 rw0.2) kr h0
  rw [kcl] at hld
  have hR167 : R' 167 = R 167 := j2 167 (by decide)
  by_cases c : led o (abR o s) < 0
  · have hl1 : led o (abR o s) = -1 := by have := led_ge o (abR o s); omega
    rw [hl1] at hld
    have rl := hP.1 (s.1 + s.2.1 - 1) (by omega)
    have hrl : R' 167 (s.1 + s.2.1 - 1) = some (223 + 2 * ρ (s.1 + s.2.1 - 1)) := by rw [hR167]; exact rl.1
    obtain ⟨R3, hR3⟩ : ∃ R3, R3 = au R' 167 (au (R' 167) s.1 (some (223 + 2 * ρ (s.1 + s.2.1 - 1)))) := ⟨_, rfl⟩
    obtain ⟨R4, hR4⟩ : ∃ R4, R4 = au R3 167 (au (R3 167) (s.1 + s.2.1 - 1) (some (223 + 2 * ρ s.1))) := ⟨_, rfl⟩
    have hF3 : FixR R3 := by rw [hR3]; exact FixR_m hF2 (fun a _ h _ => au_n _ _ h)
    have hF4 : FixR R4 := by rw [hR4]; exact FixR_m hF3 (fun a _ h _ => au_n _ _ h)
    have hP4 : Pr6 R4 (fun k => ρ (swp s.1 (s.1 + s.2.1 - 1) k)) := Pr6_sw hP (by omega) (by omega) (by rw [hR4, au_s, hR3, au_s, hR167])
    have hab : abP o s = (s.1, s.2.1 - 1, fun k => au s.2.2.1 s.1 (abR o s) (swp s.1 (s.1 + s.2.1 - 1) k), s.2.2.2) := if_pos c
    rw [hab]
    refine ⟨au K 165 (au (K 165) 9 ((s.2.1 : Int) - 1)), R4, _, ?_, ⟨hP4, by rw [au_s, au_n _ _ (by decide)]; exact k8, ?_, by rw [au_s, au_n _ _ (by decide)]; exact k10, by show s.1 + (s.2.1 - 1) ≤ 6; omega, fun k hk => ?_, fun k hk => ?_, fun k hk => ?_⟩, Fcm_f hKF (by decide), fun x h1 h2 => by rw [hR4, au_n _ _ h2, hR3, au_n _ _ h2]; exact j2 x h1⟩
    · refine run_of tb_X3_absorb (Nat.le_of_ble_eq_true rfl) ?_
      show ∃ ls', am_ev (am_run am_tb (d + 5)) tX3_absorb ([vR 165, vU, vU, vU, vU, vU], [], LH L I R u) = _
      apply Exists.intro
      unfold tX3_absorb
      apply t_Q
      · apply t_S
        refine x_aload_n rfl ?_
        refine x_giv tg_165 rfl (show _ = (s.1 : Int) from c8) ?_
        refine x_aload_n rfl ?_
        refine x_giv tg_165 rfl (show _ = (s.2.1 : Int) from c9) ?_
        refine x_iadd ?_
        refine x_bipush ?_
        exact rfl
      apply t_Q
      · apply t_K
        apply t_Qs
        apply t_B
        · exact rfl
        exact t_ic_le_t (by omega)
      apply t_Q
      · apply t_S
        refine x_aload_n rfl ?_
        refine x_gr tg_165 rfl (fx_165_4 hF) ?_
        refine x_aload_n rfl ?_
        refine x_giv tg_165 rfl (show _ = (s.1 : Int) from c8) ?_
        refine x_aald (by rw [tg_167]; decide) (ln_167 L) (by omega) (rw0.1 : R 167 s.1 = some (223 + 2 * ρ s.1)) ?_
        refine x_astore_n rfl ?_
        refine x_aload_n rfl ?_
        refine x_gr tg_165 rfl (fx_165_1 hF) ?_
        refine x_aload_n rfl ?_
        refine x_giv tg_165 rfl (show _ = o from c10) ?_
        refine x_V2v tg_159 (Nat.le_of_ble_eq_true rfl) (hbg) ?_
        refine x_iconst ?_
        refine x_istore_n rfl ?_
        exact rfl
      apply t_Q
      · apply t_K
        apply t_W
        exact hl
      apply t_Q
      · apply t_S
        refine x_aload_n rfl ?_
        refine x_gr tg_165 rfl (fx_165_1 hF2) ?_
        refine x_aload_n rfl ?_
        refine x_V2v tg_159 (Nat.le_of_ble_eq_true rfl) (hrd) ?_
        refine x_aload_n rfl ?_
        refine x_aload_n rfl ?_
        refine x_giv tg_165 rfl (show _ = o from k10) ?_
        refine x_V2i (op_cm hF rw0.2).1 (Nat.le_of_ble_eq_true rfl) (hld) ?_
        refine x_istore_n rfl ?_
        refine x_iload_n rfl ?_
        exact rfl
      apply t_Qs
      apply t_Ks
      · apply t_Q
        · apply t_B
          · exact rfl
          exact t_if_ge_f (by omega)
        apply t_B
        · refine x_aload_n rfl ?_
          refine x_gr tg_165 rfl (fx_165_4 hF2) ?_
          refine x_aload_n rfl ?_
          refine x_giv tg_165 rfl (show _ = (s.1 : Int) from k8) ?_
          refine x_aload_n rfl ?_
          refine x_gr tg_165 rfl (fx_165_4 hF2) ?_
          refine x_aload_n rfl ?_
          refine x_giv tg_165 rfl (show _ = (s.1 : Int) from k8) ?_
          refine x_aload_n rfl ?_
          refine x_giv tg_165 rfl (show _ = (s.2.1 : Int) from k9) ?_
          refine x_iadd ?_
          refine x_iconst ?_
          refine x_isub ?_
          rw [show (s.1 : Int) + (s.2.1 : Int) - 1 = ((s.1 + s.2.1 - 1 : Nat) : Int) by omega]
          refine x_aald (by rw [tg_167]; decide) (ln_167 L) (by omega) hrl ?_
          refine x_aast tg_167 ⟨by decide, by decide, (op_cm hF rl.2).1⟩ (ln_167 L) (by omega) ?_
          rw [Int.toNat_natCast, ← hR3]
          refine x_aload_n rfl ?_
          refine x_gr tg_165 rfl (fx_165_4 hF3) ?_
          refine x_aload_n rfl ?_
          refine x_giv tg_165 rfl (show _ = (s.1 : Int) from k8) ?_
          refine x_aload_n rfl ?_
          refine x_giv tg_165 rfl (show _ = (s.2.1 : Int) from k9) ?_
          refine x_iadd ?_
          refine x_iconst ?_
          refine x_isub ?_
          rw [show (s.1 : Int) + (s.2.1 : Int) - 1 = ((s.1 + s.2.1 - 1 : Nat) : Int) by omega]
          refine x_aload_n rfl ?_
          refine x_aast tg_167 ⟨by decide, by decide, (op_cm hF rw0.2).1⟩ (ln_167 L) (by omega) ?_
          rw [Int.toNat_natCast, ← hR4]
          refine x_aload_n rfl ?_
          refine x_dup rfl ?_
          refine x_giv tg_165 rfl (show _ = (s.2.1 : Int) from k9) ?_
          refine x_iconst ?_
          refine x_isub ?_
          refine x_pi tg_165 rfl rfl ?_
          exact rfl
        exact rfl
      · decide
    · rw [au_s, au_s]
      show (s.2.1 : Int) - 1 = ((s.2.1 - 1 : Nat) : Int)
      omega
    · have hk2 : k < s.1 + (s.2.1 - 1) := hk
      have hsw : swp s.1 (s.1 + s.2.1 - 1) k < s.1 + s.2.1 ∧ swp s.1 (s.1 + s.2.1 - 1) k ≠ s.1 := by
        unfold swp
        (repeat' split) <;> omega
      have rk := (hP.1 (swp s.1 (s.1 + s.2.1 - 1) k) (by omega)).2
      show Gv (au s.2.2.1 s.1 (abR o s) (swp s.1 (s.1 + s.2.1 - 1) k)) ∧ ∀ j, j < 91 → au K 165 (au (K 165) 9 ((s.2.1 : Int) - 1)) (224 + 2 * ρ (swp s.1 (s.1 + s.2.1 - 1) k)) j = au s.2.2.1 s.1 (abR o s) (swp s.1 (s.1 + s.2.1 - 1) k) j
      rw [au_n _ _ hsw.2]
      refine ⟨(cF _ hsw.1).1, fun j hj => ?_⟩
      rw [au_n _ _ (by omega), kf _ (by omega) (fun z => hsw.2 (hP.2 _ s.1 (by omega) (by omega) (by omega)))]
      exact (cF _ hsw.1).2 j hj
    · rw [au_n _ _ (by decide), au_n _ _ (by decide), kf 168 (by omega) (by omega), kf 169 (by omega) (by omega)]
      exact cl_ k hk
    · rw [au_n _ _ (by decide), kf 170 (by omega) (by omega)]
      exact cs k hk
  · obtain ⟨hw, hlw, hne, hmax⟩ := lw_ok c
    have hw9 : lw o (abR o s) < 91 := Nat.not_le.mp fun k => hne (hzR _ k)
    have hab : abP o s = adP (xw (lw o (abR o s))) (dw (lw o (abR o s))) (dsL (xw (lw o (abR o s))) (dw (lw o (abR o s))) s.1 (s.1, s.2.1, au s.2.2.1 s.1 (abM o (abR o s)), s.2.2.2)) := if_neg c
    rw [hab]
    rw [hlw] at hld
    have hcr := hgR.1 (lw o (abR o s)) hw
    have hcw : K (224 + 2 * ρ s.1) (lw o (abR o s)) = abR o s (lw o (abR o s)) := kc _ hw9
    have hiv := s1_inverse (d := d + 3) (L := L) (I := K) (u := u) hF2 hcr
    have hib := inv_b (v := abR o s (lw o (abR o s)))
    have hsc := s6_scale (d := d + 4) (L := L) (u := u) (I := K) (op_cm hF2 rw0.2) kr (v := inv (abR o s (lw o (abR o s)))) hib
    obtain ⟨M, hMe⟩ : ∃ M, M = stc K (224 + 2 * ρ s.1) (abM o (abR o s)) := ⟨_, rfl⟩
    replace hsc := ev_c hsc (show _ = M by rw [hMe]; exact stc_c (fun j hj => by rw [kc j hj]; rfl))
    have mf : ∀ x, x < 159 ∨ 164 < x → x ≠ 224 + 2 * ρ s.1 → M x = I x := fun x hx h2 => by rw [hMe, stc_o h2]; exact kf x hx h2
    have hCM : CsS M R' ρ o (s.1, s.2.1, au s.2.2.1 s.1 (abM o (abR o s)), s.2.2.2) := Cst_u hC hω mf hR167 (abM_G hgR.2) (fun j hj => by rw [hMe, stc_s hj])
    have h12 := wn_12 hw9
    have hxd := xw_dw (lw o (abR o s))
    have hMF : Fcm I M := ⟨fun a ha => mf a (by omega) (by omega), by rw [mf 165 (by omega) (by omega)]⟩
    obtain ⟨J4, R4, ρ4, hl4, hC4, hF4, hFR4, hR4⟩ := lp3_dis (d := d + 3) (L := L) (u := u) (o := o) (a := 223 + 2 * ρ s.1) (w := lw o (abR o s)) (i := xw (lw o (abR o s))) (j := dw (lw o (abR o s))) (by omega) s.1 M R' ρ (s.1, s.2.1, au s.2.2.1 s.1 (abM o (abR o s)), s.2.2.2) am_F (ltF (by omega)) hF2 hCM (Nat.le_refl _) hω
    have hω4 : 1 ≤ (dsL (xw (lw o (abR o s))) (dw (lw o (abR o s))) s.1 (s.1, s.2.1, au s.2.2.1 s.1 (abM o (abR o s)), s.2.2.2)).2.1 := dsL_w _ _ _ _ hω
    have hm8 : M 165 8 = (s.1 : Int) := by rw [mf 165 (by omega) (by omega)]; exact c8
    have hm1 : ∀ x, x = 1 ∨ x = 2 → M x = I x := fun x hx => mf x (by omega) (by omega)
    generalize dsL (xw (lw o (abR o s))) (dw (lw o (abR o s))) s.1 (s.1, s.2.1, au s.2.2.1 s.1 (abM o (abR o s)), s.2.2.2) = s4 at *
    obtain ⟨J5, R5, p, had, hpe, hpp, hC5, hF5, hR5⟩ := s3_admit (d := d + 3) (L := L) (u := u) hFR4 hC4 (i := xw (lw o (abR o s))) (j := dw (lw o (abR o s))) (by omega) hω4
    rw [hpe] at hC5
    refine ⟨J5, R5, _, ?_, hC5, Fcm_t hMF (Fcm_t hF4 hF5), fun x h1 h2 => (hR5 x h2).trans ((hR4 x h2).trans (j2 x h1))⟩
    generalize lw o (abR o s) = lwv at *
    refine run_of tb_X3_absorb (Nat.le_of_ble_eq_true rfl) ?_
    show ∃ ls', am_ev (am_run am_tb (d + 5)) tX3_absorb ([vR 165, vU, vU, vU, vU, vU], [], LH L I R u) = _
    apply Exists.intro
    unfold tX3_absorb
    apply t_Q
    · apply t_S
      refine x_aload_n rfl ?_
      refine x_giv tg_165 rfl (show _ = (s.1 : Int) from c8) ?_
      refine x_aload_n rfl ?_
      refine x_giv tg_165 rfl (show _ = (s.2.1 : Int) from c9) ?_
      refine x_iadd ?_
      refine x_bipush ?_
      exact rfl
    apply t_Q
    · apply t_K
      apply t_Qs
      apply t_B
      · exact rfl
      exact t_ic_le_t (by omega)
    apply t_Q
    · apply t_S
      refine x_aload_n rfl ?_
      refine x_gr tg_165 rfl (fx_165_4 hF) ?_
      refine x_aload_n rfl ?_
      refine x_giv tg_165 rfl (show _ = (s.1 : Int) from c8) ?_
      refine x_aald (by rw [tg_167]; decide) (ln_167 L) (by omega) (rw0.1 : R 167 s.1 = some (223 + 2 * ρ s.1)) ?_
      refine x_astore_n rfl ?_
      refine x_aload_n rfl ?_
      refine x_gr tg_165 rfl (fx_165_1 hF) ?_
      refine x_aload_n rfl ?_
      refine x_giv tg_165 rfl (show _ = o from c10) ?_
      refine x_V2v tg_159 (Nat.le_of_ble_eq_true rfl) (hbg) ?_
      refine x_iconst ?_
      refine x_istore_n rfl ?_
      exact rfl
    apply t_Q
    · apply t_K
      apply t_W
      exact hl
    apply t_Q
    · apply t_S
      refine x_aload_n rfl ?_
      refine x_gr tg_165 rfl (fx_165_1 hF2) ?_
      refine x_aload_n rfl ?_
      refine x_V2v tg_159 (Nat.le_of_ble_eq_true rfl) (hrd) ?_
      refine x_aload_n rfl ?_
      refine x_aload_n rfl ?_
      refine x_giv tg_165 rfl (show _ = o from k10) ?_
      refine x_V2i (op_cm hF rw0.2).1 (Nat.le_of_ble_eq_true rfl) (hld) ?_
      refine x_istore_n rfl ?_
      refine x_iload_n rfl ?_
      exact rfl
    apply t_Q
    · apply t_K
      apply t_Qs
      apply t_B
      · exact rfl
      exact t_if_ge_t (by omega)
    apply t_Q
    · apply t_S
      refine x_aload_n rfl ?_
      refine x_aload_n rfl ?_
      refine x_gr (op_cm hF rw0.2).1 rfl (op_cm hF2 rw0.2).2.1 ?_
      refine x_iload_n rfl ?_
      refine x_ialdv (Or.inl (op_cm hF rw0.2).2.2.1) ((op_cm hF rw0.2).2.2.2 L) (by omega) (show _ = abR o s lwv from hcw) ?_
      refine x_S1i (by decide) (Nat.le_of_ble_eq_true rfl) (hiv) ?_
      refine x_V2v (op_cm hF rw0.2).1 (Nat.le_of_ble_eq_true rfl) (hsc) ?_
      refine x_getstatic ?_
      refine x_iload_n rfl ?_
      refine x_ialdv (Or.inr tg_1) (ln_1 L) (by omega) (show _ = ((xw lwv : Nat) : Int) from (congrFun (hm1 1 (Or.inl rfl)) _).trans (hB.1.1 _ hw9)) ?_
      refine x_istore_n rfl ?_
      refine x_getstatic ?_
      refine x_iload_n rfl ?_
      refine x_ialdv (Or.inr tg_2) (ln_2 L) (by omega) (show _ = ((dw lwv : Nat) : Int) from (congrFun (hm1 2 (Or.inr rfl)) _).trans (hB.1.2 _ hw9)) ?_
      refine x_istore rfl ?_
      refine x_aload_n rfl ?_
      refine x_giv tg_165 rfl (show _ = (s.1 : Int) from hm8) ?_
      refine x_iconst ?_
      refine x_isub ?_
      refine x_istore rfl ?_
      exact rfl
    apply t_Q
    · apply t_K
      apply t_W
      exact hl4
    apply t_B
    · refine x_aload_n rfl ?_
      refine x_iload_n rfl ?_
      refine x_iload rfl ?_
      refine x_V3v tg_165 (Nat.le_of_ble_eq_true rfl) (had) ?_
      exact rfl
    exact rfl
