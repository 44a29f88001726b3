/-! The reference's reader: takes. Written by wip/whole/gen_66.py. -/
def tkT (pr : Nat → Nat → Int) (e : Nat) (y : Nat → Int) : Prop := 0 ≤ dgr (pr e) ∧ 0 ≤ dgr y ∧ 12 < dgr (pr e) + dgr y
noncomputable def tkU (w fu : Int) (hp : Nat → Int) (e : Nat) (pr : Nat → Nat → Int) (y : Nat → Int) (n : Nat) : Int :=
  if w = 1 ∧ fu = 0 then (if 12 < (n : Int) * dgr y then 1 else if hp e = 1 ∧ (0 ≤ dgr (pr e) ∧ 0 ≤ dgr (powR y n) ∧ 12 < dgr (pr e) + dgr (powR y n)) then 1 else 0) else fu
def tkQ (hp : Nat → Int) (e : Nat) (pr : Nat → Nat → Int) (y : Nat → Int) (n : Nat) : Nat → Nat → Int := au pr e (if hp e = 1 then mul (pr e) (powR y n) else powR y n)
theorem powR_12 {y : Nat → Int} {n : Nat} (h : ¬ 12 < (n : Int) * dgr y) : dgr (powR y n) ≤ 12 := by
  have a := powR_d (g := y) n
  have b := dgr_b y
  by_cases c : 0 ≤ dgr y
  · rw [show max 0 (dgr y) = dgr y by omega] at a
    omega
  · rw [show max 0 (dgr y) = 0 by omega, Int.mul_zero] at a
    omega
set_option maxRecDepth 10000 in
theorem s_takes {d L : Nat} {I : Nat → Nat → Int} {R : Nat → Nat → Option Nat} {u : Int64} (hF : FixR R) {w : Int} {p e : Nat} {la mm fu : Int} {mi hp : Nat → Int} {su pr : Nat → Nat → Int} (hR : Res I) (hT : Tabs I) (h1 : RdF I w p e la mm fu mi hp) (h2 : RdB w e la mm fu mi hp) (h3 : RdW I w fu e hp su pr) {y : Nat → Int} (hy : w = 1 → fu = 0 → ∀ v, v < 496 → gro I 27 v = y v) {n : Nat} (hn : n ≤ 99) : ∃ J, am_run am_tb (d + 6) 212 [vR 301, vI n] (LH L I R u) = some ([], LH L J R u) ∧ Fr I J ∧ RdF J w p e la mm (tkU w fu hp e pr y n) mi (au hp e 1) ∧ RdB w e la mm (tkU w fu hp e pr y n) mi (au hp e 1) ∧ RdW J w (tkU w fu hp e pr y n) e (au hp e 1) su (tkQ hp e pr y n) := by
  have he8 := h2.1
  have hB : ∀ fu', (fu' = 0 ∨ fu' = 1) → RdB w e la mm fu' mi (au hp e 1) := fun fu' hf => ⟨h2.1, h2.2.1, h2.2.2.1, h2.2.2.2.1, hf, h2.2.2.2.2.2.1, b_au h2.2.2.2.2.2.2 (Or.inr rfl)⟩
  by_cases cw : w = 1
  · by_cases cf : fu = 0
    · have hk := h3 cw cf
      have hyv := hy cw cf
      have hpt := s_isPowerTooMuch (d := d + 2) (L := L) (u := u) (I := I) hF hR hT (t := 27) (n := n) (by omega) hn
      rw [dgr_c hyv] at hpt
      by_cases c1 : 12 < (n : Int) * dgr y
      · rw [if_pos c1] at hpt
        have eU : tkU w fu hp e pr y n = 1 := by unfold tkU; rw [if_pos ⟨cw, cf⟩, if_pos c1]
        rw [eU]
        refine ⟨au (au I 301 (au (I 301) 24 1)) 316 (au (I 316) e 1), ?_, Fr_a (Fr_f (Fr_r hR) (by omega)) (by omega), ⟨h1.1, h1.2.1, h1.2.2.1, h1.2.2.2.1, h1.2.2.2.2.1, rfl, h1.2.2.2.2.2.2.1, hp_au h1.2.2.2.2.2.2.2⟩, hB 1 (Or.inr rfl), fun _ z => absurd z (by decide)⟩
        refine run_of tb_X12_takes (Nat.le_of_ble_eq_true rfl) ?_
        show ∃ ls', am_ev (am_run am_tb (d + 5)) tX12_takes ([vR 301, vI n], [], LH L I R u) = some (1, ls', [], LH L (au (au I 301 (au (I 301) 24 1)) 316 (au (I 316) e 1)) R u)
        apply Exists.intro
        unfold tX12_takes
        apply t_Q
        · apply t_S
          refine x_aload_n rfl ?_
          refine x_giv tg_301 rfl (show _ = w from h1.2.2.2.2.1) ?_
          exact rfl
        apply t_Q
        · apply t_Ks
          · apply t_Q
            · apply t_B
              · exact rfl
              exact t_if_eq_f (by omega)
            apply t_Q
            · apply t_B
              · refine x_aload_n rfl ?_
                refine x_giv tg_301 rfl (show _ = fu from h1.2.2.2.2.2.1) ?_
                exact rfl
              exact t_if_ne_f (by omega)
            apply t_S
            refine x_aload_n rfl ?_
            refine x_aload_n rfl ?_
            refine x_bipush ?_
            refine x_iload_n rfl ?_
            refine x_V3i tg_301 (Nat.le_of_ble_eq_true rfl) (hpt) ?_
            refine x_pi tg_301 rfl (by first | rfl | exact decide_eq_true (by omega)) ?_
            exact rfl
          · decide
        apply t_Q
        · apply t_S
          refine x_aload_n rfl ?_
          refine x_giv tg_301 rfl (show _ = w from h1.2.2.2.2.1) ?_
          exact rfl
        apply t_Q
        · apply t_K
          apply t_Q
          · apply t_B
            · exact rfl
            exact t_if_eq_f (by omega)
          apply t_Qs
          apply t_B
          · refine x_aload_n rfl ?_
            refine x_giv tg_301 rfl (show _ = 1 from rfl) ?_
            exact rfl
          exact t_if_ne_t (by omega)
        apply t_Q
        · apply t_S
          refine x_aload_n rfl ?_
          refine x_giv tg_301 rfl (show _ = w from h1.2.2.2.2.1) ?_
          exact rfl
        apply t_Q
        · apply t_K
          apply t_Q
          · apply t_B
            · exact rfl
            exact t_if_eq_f (by omega)
          apply t_Qs
          apply t_B
          · refine x_aload_n rfl ?_
            refine x_giv tg_301 rfl (show _ = 1 from rfl) ?_
            exact rfl
          exact t_if_ne_t (by omega)
        apply t_B
        · refine x_aload_n rfl ?_
          refine x_gr tg_301 rfl (fx_301_26 hF) ?_
          refine x_aload_n rfl ?_
          refine x_giv tg_301 rfl (show _ = ((e : Nat) : Int) from h1.2.1) ?_
          refine x_iconst ?_
          refine x_bast tg_316 (ln_316 L) (by omega) (by first | decide | omega) ?_
          exact rfl
        exact rfl
      · rw [if_neg c1] at hpt
        have hra := s_raises (d := d) (L := L) (u := u) (I := (au I 301 (au (I 301) 24 0))) hF hR hT (n := n) hn (by rw [dgr_c (f := gro (au I 301 (au (I 301) 24 0)) 27) (g := y) hyv]; omega)
        rw [raI_c (g := gro (au I 301 (au (I 301) 24 0)) 27) (h := y) hyv] at hra
        have hyb : resd y := fun v hv => by rw [← hyv v hv]; exact hR _
        have hF2 : Fr I (raI (au I 301 (au (I 301) 24 0)) y n) := Fr_ra (Fr_f (Fr_r hR) (by omega)) hyb
        have hT2 := Fr_T hF2 hT
        have hp12 := powR_12 c1
        have r27 : ∀ v, v < 496 → gro (raI (au I 301 (au (I 301) 24 0)) y n) 27 v = powR y n v := fun v hv => ra27 v hv
        have ro : ∀ r, r ≠ 25 → r ≠ 26 → r ≠ 27 → ∀ v, v < 496 → gro (raI (au I 301 (au (I 301) 24 0)) y n) r v = gro I r v := fun r a b c v hv => by
          unfold raI
          rw [gro_n hv a, gro_n hv c, gro_n hv b]
          rfl
        have q301 : (raI (au I 301 (au (I 301) 24 0)) y n) 301 = (au I 301 (au (I 301) 24 0)) 301 := raI_n
        have hF3 : ∀ v, Fr I (au (raI (au I 301 (au (I 301) 24 0)) y n) 301 (au ((raI (au I 301 (au (I 301) 24 0)) y n) 301) 24 v)) := fun v => Fr_f hF2 (by omega)
        by_cases ch : hp e = 1
        · have hke := (hk e (Nat.le_refl _)).2.2 ch
          have hte := s_isTooMuch (d := d + 2) (L := L) (u := u) (I := (raI (au I 301 (au (I 301) 24 0)) y n)) hF hF2.2.2.2.2 hT2 (t := 37 + e) (w := 27) (by omega) (by omega)
          rw [dgr_c (f := gro (raI (au I 301 (au (I 301) 24 0)) y n) (37 + e)) (g := pr e) (fun v hv => (ro (37 + e) (by omega) (by omega) (by omega) v hv).trans (hke.1 v hv)), dgr_c (f := gro (raI (au I 301 (au (I 301) 24 0)) y n) 27) r27] at hte
          by_cases c2 : 0 ≤ dgr (pr e) ∧ 0 ≤ dgr (powR y n) ∧ 12 < dgr (pr e) + dgr (powR y n)
          · rw [if_pos c2] at hte
            have eU : tkU w fu hp e pr y n = 1 := by unfold tkU; rw [if_pos ⟨cw, cf⟩, if_neg c1, if_pos ⟨ch, c2⟩]
            rw [eU]
            refine ⟨au (au (raI (au I 301 (au (I 301) 24 0)) y n) 301 (au ((raI (au I 301 (au (I 301) 24 0)) y n) 301) 24 1)) 316 (au (I 316) e 1), ?_, Fr_a (hF3 1) (by omega), ⟨h1.1, h1.2.1, h1.2.2.1, h1.2.2.2.1, h1.2.2.2.2.1, rfl, h1.2.2.2.2.2.2.1, hp_au h1.2.2.2.2.2.2.2⟩, hB 1 (Or.inr rfl), fun _ z => absurd z (by decide)⟩
            refine run_of tb_X12_takes (Nat.le_of_ble_eq_true rfl) ?_
            show ∃ ls', am_ev (am_run am_tb (d + 5)) tX12_takes ([vR 301, vI n], [], LH L I R u) = some (1, ls', [], LH L (au (au (raI (au I 301 (au (I 301) 24 0)) y n) 301 (au ((raI (au I 301 (au (I 301) 24 0)) y n) 301) 24 1)) 316 (au (I 316) e 1)) R u)
            apply Exists.intro
            unfold tX12_takes
            apply t_Q
            · apply t_S
              refine x_aload_n rfl ?_
              refine x_giv tg_301 rfl (show _ = w from h1.2.2.2.2.1) ?_
              exact rfl
            apply t_Q
            · apply t_Ks
              · apply t_Q
                · apply t_B
                  · exact rfl
                  exact t_if_eq_f (by omega)
                apply t_Q
                · apply t_B
                  · refine x_aload_n rfl ?_
                    refine x_giv tg_301 rfl (show _ = fu from h1.2.2.2.2.2.1) ?_
                    exact rfl
                  exact t_if_ne_f (by omega)
                apply t_S
                refine x_aload_n rfl ?_
                refine x_aload_n rfl ?_
                refine x_bipush ?_
                refine x_iload_n rfl ?_
                refine x_V3i tg_301 (Nat.le_of_ble_eq_true rfl) (hpt) ?_
                refine x_pi tg_301 rfl (by first | rfl | exact decide_eq_true (by omega)) ?_
                exact rfl
              · decide
            apply t_Q
            · apply t_S
              refine x_aload_n rfl ?_
              refine x_giv tg_301 rfl (show _ = w from h1.2.2.2.2.1) ?_
              exact rfl
            apply t_Q
            · apply t_Ks
              · apply t_Q
                · apply t_B
                  · exact rfl
                  exact t_if_eq_f (by omega)
                apply t_Q
                · apply t_B
                  · refine x_aload_n rfl ?_
                    refine x_giv tg_301 rfl (show _ = 0 from rfl) ?_
                    exact rfl
                  exact t_if_ne_f (by omega)
                apply t_Q
                · apply t_S
                  refine x_aload_n rfl ?_
                  refine x_iload_n rfl ?_
                  refine x_V2v tg_301 (Nat.le_of_ble_eq_true rfl) (hra) ?_
                  refine x_aload_n rfl ?_
                  refine x_aload_n rfl ?_
                  refine x_gr tg_301 rfl (fx_301_26 hF) ?_
                  refine x_aload_n rfl ?_
                  refine x_giv tg_301 rfl (show _ = ((e : Nat) : Int) from h1.2.1) ?_
                  refine x_baldv tg_316 (ln_316 L) (by omega) (show I 316 (Int.toNat ((e : Nat) : Int)) = hp e from (congrArg (I 316) (Int.toNat_natCast e)).trans (h1.2.2.2.2.2.2.2 e h2.1)) ?_
                  exact rfl
                apply t_Q
                · apply t_K
                  apply t_Qs
                  apply t_Ks
                  · apply t_Q
                    · apply t_B
                      · exact rfl
                      exact t_if_eq_f (by omega)
                    apply t_Q
                    · apply t_B
                      · refine x_aload_n rfl ?_
                        refine x_bipush ?_
                        refine x_aload_n rfl ?_
                        refine x_giv tg_301 rfl (show _ = ((e : Nat) : Int) from h1.2.1) ?_
                        refine x_iadd ?_
                        rw [show (37 : Int) + ((e : Nat) : Int) = ((37 + e : Nat) : Int) by omega]
                        refine x_bipush ?_
                        refine x_V3i tg_301 (Nat.le_of_ble_eq_true rfl) (hte) ?_
                        exact rfl
                      exact t_if_eq_f (by omega)
                    apply t_B
                    · refine x_iconst ?_
                      exact rfl
                    exact t_goto
                  · decide
                apply t_S
                refine x_pi tg_301 rfl (by first | rfl | exact decide_eq_true (by omega)) ?_
                exact rfl
              · decide
            apply t_Q
            · apply t_S
              refine x_aload_n rfl ?_
              refine x_giv tg_301 rfl (show _ = w from h1.2.2.2.2.1) ?_
              exact rfl
            apply t_Q
            · apply t_K
              apply t_Q
              · apply t_B
                · exact rfl
                exact t_if_eq_f (by omega)
              apply t_Qs
              apply t_B
              · refine x_aload_n rfl ?_
                refine x_giv tg_301 rfl (show _ = 1 from rfl) ?_
                exact rfl
              exact t_if_ne_t (by omega)
            apply t_B
            · refine x_aload_n rfl ?_
              refine x_gr tg_301 rfl (fx_301_26 hF) ?_
              refine x_aload_n rfl ?_
              refine x_giv tg_301 rfl (show _ = ((e : Nat) : Int) from h1.2.1) ?_
              refine x_iconst ?_
              refine x_bast tg_316 (ln_316 L) (by omega) (by first | decide | omega) ?_
              exact rfl
            exact rfl
          · rw [if_neg c2] at hte
            have eU : tkU w fu hp e pr y n = 0 := by unfold tkU; rw [if_pos ⟨cw, cf⟩, if_neg c1, if_neg (fun z => c2 z.2)]
            have eQ : tkQ hp e pr y n = au pr e (mul (pr e) (powR y n)) := by unfold tkQ; rw [if_pos ch]
            have hmd := mul_d (g := pr e) (h := powR y n)
            have hdb := dgr_b (pr e)
            have hdb2 := dgr_b (powR y n)
            have g37 : ∀ v, v < 496 → gro (au (raI (au I 301 (au (I 301) 24 0)) y n) 301 (au ((raI (au I 301 (au (I 301) 24 0)) y n) 301) 24 0)) (37 + e) v = pr e v := fun v hv => (ro (37 + e) (by omega) (by omega) (by omega) v hv).trans (hke.1 v hv)
            have hmu := s_multiplies (d := d + 1) (L := L) (u := u) (I := (au (raI (au I 301 (au (I 301) 24 0)) y n) 301 (au ((raI (au I 301 (au (I 301) 24 0)) y n) 301) 24 0))) hF (t := 37 + e) (w := 27) (to := 25) (hF3 0).2.2.2.2 (Fr_T (hF3 0) hT) (by
              rw [dgr_c (f := gro (au (raI (au I 301 (au (I 301) 24 0)) y n) 301 (au ((raI (au I 301 (au (I 301) 24 0)) y n) 301) 24 0)) (37 + e)) g37, dgr_c (f := gro (au (raI (au I 301 (au (I 301) 24 0)) y n) 301 (au ((raI (au I 301 (au (I 301) 24 0)) y n) 301) 24 0)) 27) (g := powR y n) r27]
              omega) (by omega) (by omega) (by omega) (by omega) (by omega)
            rw [show muF (gro (au (raI (au I 301 (au (I 301) 24 0)) y n) 301 (au ((raI (au I 301 (au (I 301) 24 0)) y n) 301) 24 0)) (37 + e)) (gro (au (raI (au I 301 (au (I 301) 24 0)) y n) 301 (au ((raI (au I 301 (au (I 301) 24 0)) y n) 301) 24 0)) 27) (wds (gro (au (raI (au I 301 (au (I 301) 24 0)) y n) 301 (au ((raI (au I 301 (au (I 301) 24 0)) y n) 301) 24 0)) (37 + e))) = mul (pr e) (powR y n) from (show _ = mul (gro (au (raI (au I 301 (au (I 301) 24 0)) y n) 301 (au ((raI (au I 301 (au (I 301) 24 0)) y n) 301) 24 0)) (37 + e)) (gro (au (raI (au I 301 (au (I 301) 24 0)) y n) 301 (au ((raI (au I 301 (au (I 301) 24 0)) y n) 301) 24 0)) 27) from rfl).trans (mul_c g37 r27)] at hmu
            have hcp := s_copies (d := d + 3) (L := L) (u := u) (I := sro (au (raI (au I 301 (au (I 301) 24 0)) y n) 301 (au ((raI (au I 301 (au (I 301) 24 0)) y n) 301) 24 0)) 25 (mul (pr e) (powR y n))) hF (fr := 25) (to := 37 + e) (by omega) (by omega)
            rw [sro_c (f := gro (sro (au (raI (au I 301 (au (I 301) 24 0)) y n) 301 (au ((raI (au I 301 (au (I 301) 24 0)) y n) 301) 24 0)) 25 (mul (pr e) (powR y n))) 25) (g := mul (pr e) (powR y n)) (fun v hv => gro_s hv)] at hcp
            rw [eU, eQ]
            refine ⟨au (sro (sro (au (raI (au I 301 (au (I 301) 24 0)) y n) 301 (au ((raI (au I 301 (au (I 301) 24 0)) y n) 301) 24 0)) 25 (mul (pr e) (powR y n))) (37 + e) (mul (pr e) (powR y n))) 316 (au (I 316) e 1), ?_, Fr_a (Fr_s (Fr_s (hF3 0) (by omega) mul_r) (by omega) mul_r) (by omega), ⟨h1.1, h1.2.1, h1.2.2.1, h1.2.2.2.1, h1.2.2.2.2.1, rfl, h1.2.2.2.2.2.2.1, hp_au h1.2.2.2.2.2.2.2⟩, hB 0 (Or.inl rfl), fun _ _ k hke2 => ?_⟩
            · generalize mul (pr e) (powR y n) = M at *
              refine run_of tb_X12_takes (Nat.le_of_ble_eq_true rfl) ?_
              show ∃ ls', am_ev (am_run am_tb (d + 5)) tX12_takes ([vR 301, vI n], [], LH L I R u) = some (1, ls', [], LH L (au (sro (sro (au (raI (au I 301 (au (I 301) 24 0)) y n) 301 (au ((raI (au I 301 (au (I 301) 24 0)) y n) 301) 24 0)) 25 M) (37 + e) M) 316 (au (I 316) e 1)) R u)
              apply Exists.intro
              unfold tX12_takes
              apply t_Q
              · apply t_S
                refine x_aload_n rfl ?_
                refine x_giv tg_301 rfl (show _ = w from h1.2.2.2.2.1) ?_
                exact rfl
              apply t_Q
              · apply t_Ks
                · apply t_Q
                  · apply t_B
                    · exact rfl
                    exact t_if_eq_f (by omega)
                  apply t_Q
                  · apply t_B
                    · refine x_aload_n rfl ?_
                      refine x_giv tg_301 rfl (show _ = fu from h1.2.2.2.2.2.1) ?_
                      exact rfl
                    exact t_if_ne_f (by omega)
                  apply t_S
                  refine x_aload_n rfl ?_
                  refine x_aload_n rfl ?_
                  refine x_bipush ?_
                  refine x_iload_n rfl ?_
                  refine x_V3i tg_301 (Nat.le_of_ble_eq_true rfl) (hpt) ?_
                  refine x_pi tg_301 rfl (by first | rfl | exact decide_eq_true (by omega)) ?_
                  exact rfl
                · decide
              apply t_Q
              · apply t_S
                refine x_aload_n rfl ?_
                refine x_giv tg_301 rfl (show _ = w from h1.2.2.2.2.1) ?_
                exact rfl
              apply t_Q
              · apply t_Ks
                · apply t_Q
                  · apply t_B
                    · exact rfl
                    exact t_if_eq_f (by omega)
                  apply t_Q
                  · apply t_B
                    · refine x_aload_n rfl ?_
                      refine x_giv tg_301 rfl (show _ = 0 from rfl) ?_
                      exact rfl
                    exact t_if_ne_f (by omega)
                  apply t_Q
                  · apply t_S
                    refine x_aload_n rfl ?_
                    refine x_iload_n rfl ?_
                    refine x_V2v tg_301 (Nat.le_of_ble_eq_true rfl) (hra) ?_
                    refine x_aload_n rfl ?_
                    refine x_aload_n rfl ?_
                    refine x_gr tg_301 rfl (fx_301_26 hF) ?_
                    refine x_aload_n rfl ?_
                    refine x_giv tg_301 rfl (show _ = ((e : Nat) : Int) from h1.2.1) ?_
                    refine x_baldv tg_316 (ln_316 L) (by omega) (show I 316 (Int.toNat ((e : Nat) : Int)) = hp e from (congrArg (I 316) (Int.toNat_natCast e)).trans (h1.2.2.2.2.2.2.2 e h2.1)) ?_
                    exact rfl
                  apply t_Q
                  · apply t_Ks
                    · apply t_Q
                      · apply t_K
                        apply t_Q
                        · apply t_B
                          · exact rfl
                          exact t_if_eq_f (by omega)
                        apply t_Qs
                        apply t_B
                        · refine x_aload_n rfl ?_
                          refine x_bipush ?_
                          refine x_aload_n rfl ?_
                          refine x_giv tg_301 rfl (show _ = ((e : Nat) : Int) from h1.2.1) ?_
                          refine x_iadd ?_
                          rw [show (37 : Int) + ((e : Nat) : Int) = ((37 + e : Nat) : Int) by omega]
                          refine x_bipush ?_
                          refine x_V3i tg_301 (Nat.le_of_ble_eq_true rfl) (hte) ?_
                          exact rfl
                        exact t_if_eq_t (by omega)
                      apply t_S
                      refine x_iconst ?_
                      exact rfl
                    · decide
                  apply t_S
                  refine x_pi tg_301 rfl (by first | rfl | exact decide_eq_true (by omega)) ?_
                  exact rfl
                · decide
              apply t_Q
              · apply t_S
                refine x_aload_n rfl ?_
                refine x_giv tg_301 rfl (show _ = w from h1.2.2.2.2.1) ?_
                exact rfl
              apply t_Q
              · apply t_K
                apply t_Q
                · apply t_B
                  · exact rfl
                  exact t_if_eq_f (by omega)
                apply t_Q
                · apply t_B
                  · refine x_aload_n rfl ?_
                    refine x_giv tg_301 rfl (show _ = 0 from rfl) ?_
                    exact rfl
                  exact t_if_ne_f (by omega)
                apply t_Q
                · apply t_S
                  refine x_aload_n rfl ?_
                  refine x_gr tg_301 rfl (fx_301_26 hF) ?_
                  refine x_aload_n rfl ?_
                  refine x_giv tg_301 rfl (show _ = ((e : Nat) : Int) from h1.2.1) ?_
                  refine x_baldv tg_316 (ln_316 L) (by omega) (show I 316 (Int.toNat ((e : Nat) : Int)) = hp e from (congrArg (I 316) (Int.toNat_natCast e)).trans (h1.2.2.2.2.2.2.2 e h2.1)) ?_
                  exact rfl
                apply t_Qs
                apply t_Ks
                · apply t_Q
                  · apply t_B
                    · exact rfl
                    exact t_if_eq_f (by omega)
                  apply t_B
                  · refine x_aload_n rfl ?_
                    refine x_bipush ?_
                    refine x_aload_n rfl ?_
                    refine x_giv tg_301 rfl (show _ = ((e : Nat) : Int) from h1.2.1) ?_
                    refine x_iadd ?_
                    rw [show (37 : Int) + ((e : Nat) : Int) = ((37 + e : Nat) : Int) by omega]
                    refine x_bipush ?_
                    refine x_bipush ?_
                    refine x_V4v tg_301 (Nat.le_of_ble_eq_true rfl) (hmu) ?_
                    refine x_aload_n rfl ?_
                    refine x_bipush ?_
                    refine x_bipush ?_
                    refine x_aload_n rfl ?_
                    refine x_giv tg_301 rfl (show _ = ((e : Nat) : Int) from h1.2.1) ?_
                    refine x_iadd ?_
                    rw [show (37 : Int) + ((e : Nat) : Int) = ((37 + e : Nat) : Int) by omega]
                    refine x_V3v tg_301 (Nat.le_of_ble_eq_true rfl) (hcp) ?_
                    exact rfl
                  exact t_goto
                · decide
              apply t_B
              · refine x_aload_n rfl ?_
                refine x_gr tg_301 rfl (fx_301_26 hF) ?_
                refine x_aload_n rfl ?_
                refine x_giv tg_301 rfl (show _ = ((e : Nat) : Int) from h1.2.1) ?_
                refine x_iconst ?_
                refine x_bast tg_316 (ln_316 L) (by omega) (by first | decide | omega) ?_
                exact rfl
              exact rfl
            · have a := hk k hke2
              show (∀ v, v < 496 → gro (sro (sro (au (raI (au I 301 (au (I 301) 24 0)) y n) 301 (au ((raI (au I 301 (au (I 301) 24 0)) y n) 301) 24 0)) 25 (mul (pr e) (powR y n))) (37 + e) (mul (pr e) (powR y n))) (28 + k) v = su k v) ∧ dgr (su k) ≤ 12 ∧ (_ → (∀ v, v < 496 → gro (sro (sro (au (raI (au I 301 (au (I 301) 24 0)) y n) 301 (au ((raI (au I 301 (au (I 301) 24 0)) y n) 301) 24 0)) 25 (mul (pr e) (powR y n))) (37 + e) (mul (pr e) (powR y n))) (37 + k) v = _) ∧ _)
              refine ⟨fun v hv => ?_, a.2.1, fun z => ?_⟩
              · rw [gro_n hv (by omega), gro_n hv (by omega)]
                exact (ro (28 + k) (by omega) (by omega) (by omega) v hv).trans (a.1 v hv)
              · by_cases ck : k = e
                · subst ck
                  rw [au_s]
                  exact ⟨fun v hv => gro_s hv, by omega⟩
                · rw [au_n _ _ ck] at z
                  rw [au_n _ _ ck]
                  refine ⟨fun v hv => ?_, (a.2.2 z).2⟩
                  rw [gro_n hv (by omega), gro_n hv (by omega)]
                  exact (ro (37 + k) (by omega) (by omega) (by omega) v hv).trans ((a.2.2 z).1 v hv)
        · have ch0 : hp e = 0 := by have := h2.2.2.2.2.2.2 e; omega
          have eU : tkU w fu hp e pr y n = 0 := by unfold tkU; rw [if_pos ⟨cw, cf⟩, if_neg c1, if_neg (fun z => ch z.1)]
          have eQ : tkQ hp e pr y n = au pr e (powR y n) := by unfold tkQ; rw [if_neg ch]
          have hcp := s_copies (d := d + 3) (L := L) (u := u) (I := (au (raI (au I 301 (au (I 301) 24 0)) y n) 301 (au ((raI (au I 301 (au (I 301) 24 0)) y n) 301) 24 0))) hF (fr := 27) (to := 37 + e) (by omega) (by omega)
          rw [sro_c (f := gro (au (raI (au I 301 (au (I 301) 24 0)) y n) 301 (au ((raI (au I 301 (au (I 301) 24 0)) y n) 301) 24 0)) 27) (g := powR y n) r27] at hcp
          rw [eU, eQ]
          refine ⟨au (sro (au (raI (au I 301 (au (I 301) 24 0)) y n) 301 (au ((raI (au I 301 (au (I 301) 24 0)) y n) 301) 24 0)) (37 + e) (powR y n)) 316 (au (I 316) e 1), ?_, Fr_a (Fr_s (hF3 0) (by omega) (powR_b n)) (by omega), ⟨h1.1, h1.2.1, h1.2.2.1, h1.2.2.2.1, h1.2.2.2.2.1, rfl, h1.2.2.2.2.2.2.1, hp_au h1.2.2.2.2.2.2.2⟩, hB 0 (Or.inl rfl), fun _ _ k hke2 => ?_⟩
          · skip
            refine run_of tb_X12_takes (Nat.le_of_ble_eq_true rfl) ?_
            show ∃ ls', am_ev (am_run am_tb (d + 5)) tX12_takes ([vR 301, vI n], [], LH L I R u) = some (1, ls', [], LH L (au (sro (au (raI (au I 301 (au (I 301) 24 0)) y n) 301 (au ((raI (au I 301 (au (I 301) 24 0)) y n) 301) 24 0)) (37 + e) (powR y n)) 316 (au (I 316) e 1)) R u)
            apply Exists.intro
            unfold tX12_takes
            apply t_Q
            · apply t_S
              refine x_aload_n rfl ?_
              refine x_giv tg_301 rfl (show _ = w from h1.2.2.2.2.1) ?_
              exact rfl
            apply t_Q
            · apply t_Ks
              · apply t_Q
                · apply t_B
                  · exact rfl
                  exact t_if_eq_f (by omega)
                apply t_Q
                · apply t_B
                  · refine x_aload_n rfl ?_
                    refine x_giv tg_301 rfl (show _ = fu from h1.2.2.2.2.2.1) ?_
                    exact rfl
                  exact t_if_ne_f (by omega)
                apply t_S
                refine x_aload_n rfl ?_
                refine x_aload_n rfl ?_
                refine x_bipush ?_
                refine x_iload_n rfl ?_
                refine x_V3i tg_301 (Nat.le_of_ble_eq_true rfl) (hpt) ?_
                refine x_pi tg_301 rfl (by first | rfl | exact decide_eq_true (by omega)) ?_
                exact rfl
              · decide
            apply t_Q
            · apply t_S
              refine x_aload_n rfl ?_
              refine x_giv tg_301 rfl (show _ = w from h1.2.2.2.2.1) ?_
              exact rfl
            apply t_Q
            · apply t_Ks
              · apply t_Q
                · apply t_B
                  · exact rfl
                  exact t_if_eq_f (by omega)
                apply t_Q
                · apply t_B
                  · refine x_aload_n rfl ?_
                    refine x_giv tg_301 rfl (show _ = 0 from rfl) ?_
                    exact rfl
                  exact t_if_ne_f (by omega)
                apply t_Q
                · apply t_S
                  refine x_aload_n rfl ?_
                  refine x_iload_n rfl ?_
                  refine x_V2v tg_301 (Nat.le_of_ble_eq_true rfl) (hra) ?_
                  refine x_aload_n rfl ?_
                  refine x_aload_n rfl ?_
                  refine x_gr tg_301 rfl (fx_301_26 hF) ?_
                  refine x_aload_n rfl ?_
                  refine x_giv tg_301 rfl (show _ = ((e : Nat) : Int) from h1.2.1) ?_
                  refine x_baldv tg_316 (ln_316 L) (by omega) (show I 316 (Int.toNat ((e : Nat) : Int)) = hp e from (congrArg (I 316) (Int.toNat_natCast e)).trans (h1.2.2.2.2.2.2.2 e h2.1)) ?_
                  exact rfl
                apply t_Q
                · apply t_Ks
                  · apply t_Q
                    · apply t_K
                      apply t_Qs
                      apply t_B
                      · exact rfl
                      exact t_if_eq_t (by omega)
                    apply t_S
                    refine x_iconst ?_
                    exact rfl
                  · decide
                apply t_S
                refine x_pi tg_301 rfl (by first | rfl | exact decide_eq_true (by omega)) ?_
                exact rfl
              · decide
            apply t_Q
            · apply t_S
              refine x_aload_n rfl ?_
              refine x_giv tg_301 rfl (show _ = w from h1.2.2.2.2.1) ?_
              exact rfl
            apply t_Q
            · apply t_Ks
              · apply t_Q
                · apply t_B
                  · exact rfl
                  exact t_if_eq_f (by omega)
                apply t_Q
                · apply t_B
                  · refine x_aload_n rfl ?_
                    refine x_giv tg_301 rfl (show _ = 0 from rfl) ?_
                    exact rfl
                  exact t_if_ne_f (by omega)
                apply t_Q
                · apply t_S
                  refine x_aload_n rfl ?_
                  refine x_gr tg_301 rfl (fx_301_26 hF) ?_
                  refine x_aload_n rfl ?_
                  refine x_giv tg_301 rfl (show _ = ((e : Nat) : Int) from h1.2.1) ?_
                  refine x_baldv tg_316 (ln_316 L) (by omega) (show I 316 (Int.toNat ((e : Nat) : Int)) = hp e from (congrArg (I 316) (Int.toNat_natCast e)).trans (h1.2.2.2.2.2.2.2 e h2.1)) ?_
                  exact rfl
                apply t_Q
                · apply t_K
                  apply t_Qs
                  apply t_B
                  · exact rfl
                  exact t_if_eq_t (by omega)
                apply t_S
                refine x_aload_n rfl ?_
                refine x_bipush ?_
                refine x_bipush ?_
                refine x_aload_n rfl ?_
                refine x_giv tg_301 rfl (show _ = ((e : Nat) : Int) from h1.2.1) ?_
                refine x_iadd ?_
                rw [show (37 : Int) + ((e : Nat) : Int) = ((37 + e : Nat) : Int) by omega]
                refine x_V3v tg_301 (Nat.le_of_ble_eq_true rfl) (hcp) ?_
                exact rfl
              · decide
            apply t_B
            · refine x_aload_n rfl ?_
              refine x_gr tg_301 rfl (fx_301_26 hF) ?_
              refine x_aload_n rfl ?_
              refine x_giv tg_301 rfl (show _ = ((e : Nat) : Int) from h1.2.1) ?_
              refine x_iconst ?_
              refine x_bast tg_316 (ln_316 L) (by omega) (by first | decide | omega) ?_
              exact rfl
            exact rfl
          · have a := hk k hke2
            show (∀ v, v < 496 → gro (sro (au (raI (au I 301 (au (I 301) 24 0)) y n) 301 (au ((raI (au I 301 (au (I 301) 24 0)) y n) 301) 24 0)) (37 + e) (powR y n)) (28 + k) v = su k v) ∧ dgr (su k) ≤ 12 ∧ (_ → (∀ v, v < 496 → gro (sro (au (raI (au I 301 (au (I 301) 24 0)) y n) 301 (au ((raI (au I 301 (au (I 301) 24 0)) y n) 301) 24 0)) (37 + e) (powR y n)) (37 + k) v = _) ∧ _)
            refine ⟨fun v hv => ?_, a.2.1, fun z => ?_⟩
            · rw [gro_n hv (by omega)]
              exact (ro (28 + k) (by omega) (by omega) (by omega) v hv).trans (a.1 v hv)
            · by_cases ck : k = e
              · subst ck
                rw [au_s]
                exact ⟨fun v hv => gro_s hv, hp12⟩
              · rw [au_n _ _ ck] at z
                rw [au_n _ _ ck]
                refine ⟨fun v hv => ?_, (a.2.2 z).2⟩
                rw [gro_n hv (by omega)]
                exact (ro (37 + k) (by omega) (by omega) (by omega) v hv).trans ((a.2.2 z).1 v hv)
    · have cf1 : fu = 1 := by have := h2.2.2.2.2.1; omega
      have eU : tkU w fu hp e pr y n = fu := by unfold tkU; rw [if_neg (fun z => cf z.2)]
      rw [eU]
      refine ⟨au I 316 (au (I 316) e 1), ?_, Fr_a (Fr_r hR) (by omega), ⟨h1.1, h1.2.1, h1.2.2.1, h1.2.2.2.1, h1.2.2.2.2.1, h1.2.2.2.2.2.1, h1.2.2.2.2.2.2.1, hp_au h1.2.2.2.2.2.2.2⟩, hB fu h2.2.2.2.2.1, fun _ z => absurd z cf⟩
      refine run_of tb_X12_takes (Nat.le_of_ble_eq_true rfl) ?_
      show ∃ ls', am_ev (am_run am_tb (d + 5)) tX12_takes ([vR 301, vI n], [], LH L I R u) = some (1, ls', [], LH L (au I 316 (au (I 316) e 1)) R u)
      apply Exists.intro
      unfold tX12_takes
      apply t_Q
      · apply t_S
        refine x_aload_n rfl ?_
        refine x_giv tg_301 rfl (show _ = w from h1.2.2.2.2.1) ?_
        exact rfl
      apply t_Q
      · apply t_K
        apply t_Q
        · apply t_B
          · exact rfl
          exact t_if_eq_f (by omega)
        apply t_Qs
        apply t_B
        · refine x_aload_n rfl ?_
          refine x_giv tg_301 rfl (show _ = fu from h1.2.2.2.2.2.1) ?_
          exact rfl
        exact t_if_ne_t (by omega)
      apply t_Q
      · apply t_S
        refine x_aload_n rfl ?_
        refine x_giv tg_301 rfl (show _ = w from h1.2.2.2.2.1) ?_
        exact rfl
      apply t_Q
      · apply t_K
        apply t_Q
        · apply t_B
          · exact rfl
          exact t_if_eq_f (by omega)
        apply t_Qs
        apply t_B
        · refine x_aload_n rfl ?_
          refine x_giv tg_301 rfl (show _ = fu from h1.2.2.2.2.2.1) ?_
          exact rfl
        exact t_if_ne_t (by omega)
      apply t_Q
      · apply t_S
        refine x_aload_n rfl ?_
        refine x_giv tg_301 rfl (show _ = w from h1.2.2.2.2.1) ?_
        exact rfl
      apply t_Q
      · apply t_K
        apply t_Q
        · apply t_B
          · exact rfl
          exact t_if_eq_f (by omega)
        apply t_Qs
        apply t_B
        · refine x_aload_n rfl ?_
          refine x_giv tg_301 rfl (show _ = fu from h1.2.2.2.2.2.1) ?_
          exact rfl
        exact t_if_ne_t (by omega)
      apply t_B
      · refine x_aload_n rfl ?_
        refine x_gr tg_301 rfl (fx_301_26 hF) ?_
        refine x_aload_n rfl ?_
        refine x_giv tg_301 rfl (show _ = ((e : Nat) : Int) from h1.2.1) ?_
        refine x_iconst ?_
        refine x_bast tg_316 (ln_316 L) (by omega) (by first | decide | omega) ?_
        exact rfl
      exact rfl
  · have cw0 : w = 0 := by have := h2.2.1; omega
    have eU : tkU w fu hp e pr y n = fu := by unfold tkU; rw [if_neg (fun z => cw z.1)]
    rw [eU]
    refine ⟨au I 316 (au (I 316) e 1), ?_, Fr_a (Fr_r hR) (by omega), ⟨h1.1, h1.2.1, h1.2.2.1, h1.2.2.2.1, h1.2.2.2.2.1, h1.2.2.2.2.2.1, h1.2.2.2.2.2.2.1, hp_au h1.2.2.2.2.2.2.2⟩, hB fu h2.2.2.2.2.1, fun z => absurd z cw⟩
    refine run_of tb_X12_takes (Nat.le_of_ble_eq_true rfl) ?_
    show ∃ ls', am_ev (am_run am_tb (d + 5)) tX12_takes ([vR 301, vI n], [], LH L I R u) = some (1, ls', [], LH L (au I 316 (au (I 316) e 1)) R u)
    apply Exists.intro
    unfold tX12_takes
    apply t_Q
    · apply t_S
      refine x_aload_n rfl ?_
      refine x_giv tg_301 rfl (show _ = w from h1.2.2.2.2.1) ?_
      exact rfl
    apply t_Q
    · apply t_K
      apply t_Qs
      apply t_B
      · exact rfl
      exact t_if_eq_t (by omega)
    apply t_Q
    · apply t_S
      refine x_aload_n rfl ?_
      refine x_giv tg_301 rfl (show _ = w from h1.2.2.2.2.1) ?_
      exact rfl
    apply t_Q
    · apply t_K
      apply t_Qs
      apply t_B
      · exact rfl
      exact t_if_eq_t (by omega)
    apply t_Q
    · apply t_S
      refine x_aload_n rfl ?_
      refine x_giv tg_301 rfl (show _ = w from h1.2.2.2.2.1) ?_
      exact rfl
    apply t_Q
    · apply t_K
      apply t_Qs
      apply t_B
      · exact rfl
      exact t_if_eq_t (by omega)
    apply t_B
    · refine x_aload_n rfl ?_
      refine x_gr tg_301 rfl (fx_301_26 hF) ?_
      refine x_aload_n rfl ?_
      refine x_giv tg_301 rfl (show _ = ((e : Nat) : Int) from h1.2.1) ?_
      refine x_iconst ?_
      refine x_bast tg_316 (ln_316 L) (by omega) (by first | decide | omega) ?_
      exact rfl
    exact rfl
