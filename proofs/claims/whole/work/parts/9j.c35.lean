/-! The class: complete, reduceTails. Written by wip/whole/gen_9j.py. -/
def crP (k : Nat) (s : C6) : C6 := (s.1, 1, au s.2.2.1 s.1 (crC (s.2.2.2.2.1 (k + 1) - s.2.2.2.2.1 k) (s.2.2.2.1 k - s.2.2.2.1 (k + 1)) (s.2.2.1 k) (s.2.2.1 (k + 1))), s.2.2.2.1, s.2.2.2.2.1, au s.2.2.2.2.2 k 1)
theorem Cst_st {I : Nat → Nat → Int} {R : Nat → Nat → Option Nat} {ρ : Nat → Nat} {o : Int} {κ ω : Nat} {F : Nat → Nat → Int} {lx ld : Nat → Nat} {st : Nat → Int} (hC : Cst I R ρ o κ ω F lx ld st) {k : Nat} : Cst (au I 170 (au (I 170) k 1)) R ρ o κ ω F lx ld (au st k 1) := by
  obtain ⟨hP, c8, c9, c10, c6, cF, cl_, cs⟩ := hC
  refine ⟨hP, by rw [au_n _ _ (by decide)]; exact c8, by rw [au_n _ _ (by decide)]; exact c9, by rw [au_n _ _ (by decide)]; exact c10, c6, fun m hm => ⟨(cF m hm).1, fun j hj => ?_⟩, fun m hm => by rw [au_n _ _ (by decide), au_n _ _ (by decide)]; exact cl_ m hm, fun m hm => ?_⟩
  · have := (hP.1 m (by omega)).2
    rw [au_n _ _ (by omega)]; exact (cF m hm).2 j hj
  · rw [au_s, au_i, au_i]
    by_cases e : m = k
    · rw [if_pos e, if_pos e]; exact ⟨rfl, Or.inr rfl⟩
    · rw [if_neg e, if_neg e]; exact cs m hm
/-- what the completion wants to know of its rows -/
def Cgd (o : Int) (s : C6) : Prop := (∀ k, k < s.1 → led o (s.2.2.1 k) = (pl (s.2.2.2.1 k) (s.2.2.2.2.1 k) : Nat)) ∧ (∀ k, k < s.1 + s.2.1 → ∀ j, 91 ≤ j → s.2.2.1 k j = 0) ∧ (s.2.1 = 0 → s.1 < 6) ∧ ∀ k, k + 1 < s.1 → s.2.2.2.1 (k + 1) ≤ s.2.2.2.1 k ∧ s.2.2.2.2.1 k ≤ s.2.2.2.2.1 (k + 1) ∧ s.2.2.2.1 k + s.2.2.2.2.1 (k + 1) ≤ 12 ∧ (∀ w, w < 91 → s.2.2.1 k w ≠ 0 → s.2.2.2.2.1 (k + 1) - s.2.2.2.2.1 k + wn w ≤ 12) ∧ (∀ w, w < 91 → s.2.2.1 (k + 1) w ≠ 0 → s.2.2.2.1 k - s.2.2.2.1 (k + 1) + wn w ≤ 12)
/-- what holds behind it -/
def Cen (I0 : Nat → Nat → Int) (R0 : Nat → Nat → Option Nat) (P : C6 → Prop) (o : Int) (J : Nat → Nat → Int) (R' : Nat → Nat → Option Nat) : Prop := ∃ ρ' s', CsS J R' ρ' o s' ∧ P s' ∧ s'.2.1 = 0 ∧ (∀ m, m + 1 < s'.1 → s'.2.2.2.2.2 m = 1) ∧ Fcm I0 J ∧ ∀ x, x ≠ 160 → x ≠ 167 → R' x = R0 x
set_option maxRecDepth 10000 in
theorem lp3_complete {d L : Nat} {I : Nat → Nat → Int} {R : Nat → Nat → Option Nat} {u : Int64} (hF : FixR R) (hB : Tbc I) {o : Int} (h0 : o = 0 ∨ o = 1) {P : C6 → Prop} {μ : C6 → Nat} (p1 : ∀ s, P s → Cgd o s) (p2 : ∀ s, P s → s.1 + s.2.1 ≤ 6 → 1 ≤ s.2.1 → P (abP o s) ∧ μ (abP o s) < μ s) (p3 : ∀ s k, P s → s.2.1 = 0 → k + 1 < s.1 → s.2.2.2.2.2 k = 0 → P (crP k s) ∧ μ (crP k s) < μ s) {ρ0 : Nat → Nat} {s0 : C6} (hC0 : CsS I R ρ0 o s0) (hP0 : P s0) (hμ : μ s0 < 100000) : ∃ r, am_lp (am_ev (am_run am_tb (d + 6)) wX3_complete_2) 2 am_F ([vR 165, vI (0 : Nat), vU], [], LH L I R u) = some r ∧ ∃ ls J R', r = (1, ls, [], LH L J R' u) ∧ Cen I R P o J R' := by
  refine lp_meas (fun M y => ∃ (n : Nat) (J : Nat → Nat → Int) (R' : Nat → Nat → Option Nat) (ρ : Nat → Nat) (s : C6) (l2 : am_V), M = μ s ∧ n + μ s ≤ μ s0 ∧ y = ([vR 165, vI (n : Nat), l2], [], LH L J R' u) ∧ CsS J R' ρ o s ∧ P s ∧ Fcm I J ∧ ∀ x, x ≠ 160 → x ≠ 167 → R' x = R x) _ (fun M y hy => ?_) am_F (μ s0) _ (ltF (by omega)) ⟨0, I, R, ρ0, s0, vU, rfl, by omega, rfl, hC0, hP0, Fcm_r I, fun _ _ _ => rfl⟩
  obtain ⟨n, J, R', ρ, s, l2, eM, hn, ey, hC, hP, hFJ, hR'⟩ := hy
  subst ey
  have hF' : FixR R' := FixR_m hF (fun x h1 h2 _ => hR' x h1 h2)
  have hB' : Tbc J := Fcm_B hFJ hB
  obtain ⟨g1, g2, g3, g4⟩ := p1 s hP
  have hs6 : s.1 + s.2.1 ≤ 6 := hC.2.2.2.2.1
  by_cases cw : 1 ≤ s.2.1
  · obtain ⟨q1, q2⟩ := p2 s hP hs6 cw
    obtain ⟨J2, R2, ρ2, hab, hC2, hF2, hR2⟩ := s3_absorb (d := d) (L := L) (u := u) hF' hB' h0 hC g1 g2 cw
    refine ⟨(2 + 2, [vR 165, vI (n + 1 : Nat), l2], [], LH L J2 R2 u), ?_, Or.inl ⟨rfl, μ (abP o s), by omega, n + 1, J2, R2, ρ2, abP o s, l2, rfl, by omega, rfl, hC2, q1, Fcm_t hFJ hF2, fun x h1 h2 => (hR2 x h1 h2).trans (hR' x h1 h2)⟩⟩
    unfold wX3_complete_2
    apply t_Q
    · apply t_B
      · refine x_iload_n rfl ?_
        refine x_ldc ?_
        exact rfl
      exact t_ic_ge_f (by omega)
    apply t_Q
    · apply t_S
      refine x_aload_n rfl ?_
      refine x_giv tg_165 rfl (show _ = (s.2.1 : Int) from hC.2.2.1) ?_
      exact rfl
    apply t_Q
    · apply t_K
      apply t_Qs
      apply t_Ks
      · apply t_Q
        · apply t_B
          · exact rfl
          exact t_if_le_f (by omega)
        apply t_B
        · refine x_aload_n rfl ?_
          refine x_V1v tg_165 (Nat.le_of_ble_eq_true rfl) (hab) ?_
          exact rfl
        exact t_goto
      · decide
    apply t_B
    · refine x_iinc rfl rfl ?_
      exact rfl
    exact t_goeq rfl
  · have hw0 : s.2.1 = 0 := by omega
    have hC9 := hC.2.2.1
    obtain ⟨x, hch, hx⟩ := s3_cheap (d := d + 5) (L := L) (u := u) hF' hC (fun k hk => (g4 k hk).2.2.1)
    rcases hx with ⟨ex, hall⟩ | ⟨m, ex, hm, hst⟩
    · subst ex
      have key : ∃ ls, am_ev (am_run am_tb (d + 6)) wX3_complete_2 ([vR 165, vI (n : Nat), l2], [], LH L J R' u) = some (1, ls, [], LH L J R' u) := by
        apply Exists.intro
        unfold wX3_complete_2
        apply t_Q
        · apply t_B
          · refine x_iload_n rfl ?_
            refine x_ldc ?_
            exact rfl
          exact t_ic_ge_f (by omega)
        apply t_Q
        · apply t_S
          refine x_aload_n rfl ?_
          refine x_giv tg_165 rfl (show _ = (s.2.1 : Int) from hC.2.2.1) ?_
          exact rfl
        apply t_Qs
        apply t_Ks
        · apply t_Q
          · apply t_K
            apply t_Qs
            apply t_B
            · exact rfl
            exact t_if_le_t (by omega)
          apply t_Q
          · apply t_S
            refine x_aload_n rfl ?_
            refine x_V1i tg_165 (Nat.le_of_ble_eq_true rfl) (hch) ?_
            refine x_istore_n rfl ?_
            refine x_iload_n rfl ?_
            exact rfl
          apply t_Qs
          apply t_Ks
          · apply t_Q
            · apply t_B
              · exact rfl
              exact t_if_ge_f (by omega)
            apply t_B
            · exact rfl
            exact rfl
          · decide
        · decide
      obtain ⟨ls, key⟩ := key
      exact ⟨_, key, Or.inr ⟨by show ¬ 1 = 2 + 2; decide, ls, J, R', rfl, ρ, s, hC, hP, hw0, hall, hFJ, hR'⟩⟩
    · subst ex
      obtain ⟨q1, q2⟩ := p3 s m hP hw0 hm hst
      obtain ⟨f1, f2, f3, f4, f5⟩ := g4 m hm
      have hC2 := Cst_st hC (k := m)
      have hB2 : Tbc (au J 170 (au (J 170) m 1)) := Tbc_o hB' (fun a ha => au_n _ _ (by unfold Nt at ha; omega))
      obtain ⟨J2, hcr, hC3, hF3⟩ := s3_cross (d := d + 3) (L := L) (u := u) hF' hC2 hB2 hm (g3 hw0) hw0 f1 f2 f4 f5
      refine ⟨(2 + 2, [vR 165, vI (n + 1 : Nat), vI (m : Nat)], [], LH L J2 R' u), ?_, Or.inl ⟨rfl, μ (crP m s), by omega, n + 1, J2, R', ρ, crP m s, _, rfl, by omega, rfl, hC3, q1, Fcm_t (Fcm_a hFJ (by omega)) hF3, hR'⟩⟩
      unfold wX3_complete_2
      apply t_Q
      · apply t_B
        · refine x_iload_n rfl ?_
          refine x_ldc ?_
          exact rfl
        exact t_ic_ge_f (by omega)
      apply t_Q
      · apply t_S
        refine x_aload_n rfl ?_
        refine x_giv tg_165 rfl (show _ = (s.2.1 : Int) from hC.2.2.1) ?_
        exact rfl
      apply t_Q
      · apply t_Ks
        · apply t_Q
          · apply t_K
            apply t_Qs
            apply t_B
            · exact rfl
            exact t_if_le_t (by omega)
          apply t_Q
          · apply t_S
            refine x_aload_n rfl ?_
            refine x_V1i tg_165 (Nat.le_of_ble_eq_true rfl) (hch) ?_
            refine x_istore_n rfl ?_
            refine x_iload_n rfl ?_
            exact rfl
          apply t_Q
          · apply t_K
            apply t_Qs
            apply t_B
            · exact rfl
            exact t_if_ge_t (by omega)
          apply t_S
          refine x_aload_n rfl ?_
          refine x_gr tg_165 rfl (fx_165_7 hF') ?_
          refine x_iload_n rfl ?_
          refine x_iconst ?_
          refine x_bast tg_170 (ln_170 L) (by omega) (Or.inr rfl) ?_
          rw [Int.toNat_natCast]
          refine x_aload_n rfl ?_
          refine x_iload_n rfl ?_
          refine x_V2v tg_165 (Nat.le_of_ble_eq_true rfl) (hcr) ?_
          exact rfl
        · decide
      apply t_B
      · refine x_iinc rfl rfl ?_
        exact rfl
      exact t_goeq rfl
set_option maxRecDepth 10000 in
theorem s3_complete {d L : Nat} {I : Nat → Nat → Int} {R : Nat → Nat → Option Nat} {u : Int64} (hF : FixR R) (hB : Tbc I) {o : Int} (h0 : o = 0 ∨ o = 1) {P : C6 → Prop} {μ : C6 → Nat} (p1 : ∀ s, P s → Cgd o s) (p2 : ∀ s, P s → s.1 + s.2.1 ≤ 6 → 1 ≤ s.2.1 → P (abP o s) ∧ μ (abP o s) < μ s) (p3 : ∀ s k, P s → s.2.1 = 0 → k + 1 < s.1 → s.2.2.2.2.2 k = 0 → P (crP k s) ∧ μ (crP k s) < μ s) {ρ0 : Nat → Nat} {s0 : C6} (hC0 : CsS I R ρ0 o s0) (hP0 : P s0) (hμ : μ s0 < 100000) : ∃ J R', am_run am_tb (d + 7) 27 [vR 165] (LH L I R u) = some ([], LH L J R' u) ∧ Cen I R P o J R' := by
  obtain ⟨r, hl, ls, J, R', er, h⟩ := lp3_complete (d := d) (L := L) (u := u) hF hB h0 p1 p2 p3 hC0 hP0 hμ
  subst er
  refine ⟨J, R', ?_, h⟩
  refine run_of tb_X3_complete (Nat.le_of_ble_eq_true rfl) ?_
  show ∃ ls', am_ev (am_run am_tb (d + 6)) tX3_complete ([vR 165, vU, vU], [], LH L I R u) = _
  apply Exists.intro
  unfold tX3_complete
  apply t_Q
  · apply t_S
    refine x_iconst ?_
    refine x_istore_n rfl ?_
    exact rfl
  apply t_Qs
  apply t_Ks
  · apply t_W
    exact hl
  · decide
