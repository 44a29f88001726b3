/-! The reference's reader: takesSign. Written by wip/whole/gen_70.py. -/
def cloS (e : Nat) (mi : Nat → Int) (su pr : Nat → Nat → Int) : Nat → Nat → Int := (au su e (mixF 1 (su e) (sgm mi e) (pr e)))
noncomputable def sgR (w : Int) (T : Nat → Int) (b p e : Nat) (la mm fu : Int) (mi hp : Nat → Int) (su pr : Nat → Nat → Int) : Int × Nat × rdT :=
  if T p = 42 then (1, 0, (p + 1, e, 1, 0, fu, mi, hp, su, pr))
  else if T p = 43 ∨ T p = 45 then (1, 0, (p + 1, e, 1, 0, fu, au mi e (if T p = 45 then 1 else 0), au hp e 0, cloS e mi su pr, pr))
  else if T p = 41 ∧ ¬ e = 0 then pwR w T b (p + 1) (e - 1) mm fu mi (au hp e 0) (cloS e mi su pr) pr (cloS e mi su pr e)
  else (0, p, (p, e, la, mm, fu, mi, hp, su, pr))
set_option maxRecDepth 10000 in
theorem s_sign {d L : Nat} {I : Nat → Nat → Int} {R : Nat → Nat → Option Nat} {u : Int64} (hF : FixR R) {w : Int} {p e b : Nat} {la mm fu : Int} {mi hp : Nat → Int} {su pr : Nat → Nat → Int} (hR : Res I) (hT : Tabs I) (hx : Txt I b) (hpb : p ≤ b) (h1 : RdF I w p e la mm fu mi hp) (h2 : RdB w e la mm fu mi hp) (h3 : RdW I w fu e hp su pr) (hh : hp e = 1) (hpl : p < b) : ∃ J, am_run am_tb (d + 8) 217 [vR 301] (LH L I R u) = some ([vI (sgR w (I 305) b p e la mm fu mi hp su pr).1], LH L J R u) ∧ Ans I J w b (sgR w (I 305) b p e la mm fu mi hp su pr) := by
  have he8 := h2.1
  have hb2 := hx.2.1
  have htp := hx.2.2 p hpl
  by_cases c1 : I 305 p = 42
  · have ex : sgR w (I 305) b p e la mm fu mi hp su pr = (1, 0, (p + 1, e, 1, 0, fu, mi, hp, su, pr)) := by unfold sgR; rw [if_pos c1]
    rw [ex]
    refine ⟨(au (au (au I 301 (au (I 301) 18 ((p : Int) + 1))) 301 (au ((au I 301 (au (I 301) 18 ((p : Int) + 1))) 301) 21 1)) 301 (au ((au (au I 301 (au (I 301) 18 ((p : Int) + 1))) 301 (au ((au I 301 (au (I 301) 18 ((p : Int) + 1))) 301) 21 1)) 301) 22 0)), ?_, Fr_f (f := 22) (Fr_f (f := 21) (Fr_f (f := 18) (Fr_r hR) (by omega)) (by omega)) (by omega), Or.inr rfl, fun _ => ⟨⟨⟨by show (p : Int) + 1 = ((p + 1 : Nat) : Int); omega, h1.2.1, rfl, rfl, h1.2.2.2.2.1, h1.2.2.2.2.2.1, h1.2.2.2.2.2.2.1, h1.2.2.2.2.2.2.2⟩, ⟨he8, h2.2.1, Or.inr rfl, Or.inl rfl, h2.2.2.2.2.1, h2.2.2.2.2.2.1, h2.2.2.2.2.2.2⟩, h3⟩, hpl⟩, fun z => ab1 z⟩
    refine run_of tb_X12_takesSign (Nat.le_of_ble_eq_true rfl) ?_
    show ∃ ls', am_ev (am_run am_tb (d + 7)) tX12_takesSign ([vR 301], [], LH L I R u) = some (1, ls', [vI (1)], LH L ((au (au (au I 301 (au (I 301) 18 ((p : Int) + 1))) 301 (au ((au I 301 (au (I 301) 18 ((p : Int) + 1))) 301) 21 1)) 301 (au ((au (au I 301 (au (I 301) 18 ((p : Int) + 1))) 301 (au ((au I 301 (au (I 301) 18 ((p : Int) + 1))) 301) 21 1)) 301) 22 0))) R u)
    apply Exists.intro
    unfold tX12_takesSign
    apply t_Q
    · apply t_S
      refine x_aload_n rfl ?_
      refine x_bipush ?_
      refine x_bipush ?_
      refine x_V3i tg_301 (Nat.le_of_ble_eq_true rfl) (ret_t (show p < b ∧ 42 ≤ I 305 p ∧ I 305 p ≤ 42 from by omega) (s_isAt (d := d + 5) (I := I) hF (p := p) (b := b) h1.1 hx.1 hx.2.1 hpb hx.2.2 (lo := 42) (hi := 42) (by omega) (by omega))) ?_
      exact rfl
    apply t_Qs
    apply t_Ks
    · apply t_Q
      · apply t_B
        · exact rfl
        exact t_if_eq_f (by omega)
      apply t_B
      · refine x_aload_n rfl ?_
        refine x_dup rfl ?_
        refine x_giv tg_301 rfl (show _ = ((p : Nat) : Int) from h1.1) ?_
        refine x_iconst ?_
        refine x_iadd ?_
        refine x_pi tg_301 rfl rfl ?_
        refine x_aload_n rfl ?_
        refine x_iconst ?_
        refine x_pi tg_301 rfl (by first | rfl | exact decide_eq_true (by omega)) ?_
        refine x_aload_n rfl ?_
        refine x_iconst ?_
        refine x_pi tg_301 rfl (by first | rfl | exact decide_eq_true (by omega)) ?_
        refine x_iconst ?_
        exact rfl
      exact t_ireq (Or.inr (Or.inr rfl)) rfl rfl
    · decide
  · by_cases c2 : I 305 p = 43 ∨ I 305 p = 45
    · obtain ⟨J, hcl, hFJ, j1, j2, j3⟩ := s_closes (d := d + 4) (L := L) (u := u) (I := I) hF hR hT h1 h2 h3 hh
      have j305 : J 305 = I 305 := hFJ.1 305 (by decide) (by decide)
      by_cases c3 : I 305 p = 45
      · have ex : sgR w (I 305) b p e la mm fu mi hp su pr = (1, 0, (p + 1, e, 1, 0, fu, au mi e 1, au hp e 0, cloS e mi su pr, pr)) := by unfold sgR; rw [if_neg c1, if_pos c2, if_pos c3]
        rw [ex]
        refine ⟨(au (au (au (au J 315 (au (J 315) e 1)) 301 (au ((au J 315 (au (J 315) e 1)) 301) 18 ((p : Int) + 1))) 301 (au ((au (au J 315 (au (J 315) e 1)) 301 (au ((au J 315 (au (J 315) e 1)) 301) 18 ((p : Int) + 1))) 301) 21 1)) 301 (au ((au (au (au J 315 (au (J 315) e 1)) 301 (au ((au J 315 (au (J 315) e 1)) 301) 18 ((p : Int) + 1))) 301 (au ((au (au J 315 (au (J 315) e 1)) 301 (au ((au J 315 (au (J 315) e 1)) 301) 18 ((p : Int) + 1))) 301) 21 1)) 301) 22 0)), ?_, Fr_f (f := 22) (Fr_f (f := 21) (Fr_f (f := 18) (Fr_a (a := 315) hFJ (by omega)) (by omega)) (by omega)) (by omega), Or.inr rfl, fun _ => ⟨⟨⟨by show (p : Int) + 1 = ((p + 1 : Nat) : Int); omega, j1.2.1, rfl, rfl, j1.2.2.2.2.1, j1.2.2.2.2.2.1, fun k hk => by
            show (if k = e then (1 : Int) else J 315 k) = (if k = e then 1 else mi k)
            rw [j1.2.2.2.2.2.2.1 k hk], j1.2.2.2.2.2.2.2⟩, ⟨h2.1, h2.2.1, Or.inr rfl, Or.inl rfl, h2.2.2.2.2.1, b_au h2.2.2.2.2.2.1 (by decide), j2.2.2.2.2.2.2⟩, j3⟩, hpl⟩, fun z => ab1 z⟩
        refine run_of tb_X12_takesSign (Nat.le_of_ble_eq_true rfl) ?_
        show ∃ ls', am_ev (am_run am_tb (d + 7)) tX12_takesSign ([vR 301], [], LH L I R u) = some (1, ls', [vI (1)], LH L ((au (au (au (au J 315 (au (J 315) e 1)) 301 (au ((au J 315 (au (J 315) e 1)) 301) 18 ((p : Int) + 1))) 301 (au ((au (au J 315 (au (J 315) e 1)) 301 (au ((au J 315 (au (J 315) e 1)) 301) 18 ((p : Int) + 1))) 301) 21 1)) 301 (au ((au (au (au J 315 (au (J 315) e 1)) 301 (au ((au J 315 (au (J 315) e 1)) 301) 18 ((p : Int) + 1))) 301 (au ((au (au J 315 (au (J 315) e 1)) 301 (au ((au J 315 (au (J 315) e 1)) 301) 18 ((p : Int) + 1))) 301) 21 1)) 301) 22 0))) R u)
        apply Exists.intro
        unfold tX12_takesSign
        apply t_Q
        · apply t_S
          refine x_aload_n rfl ?_
          refine x_bipush ?_
          refine x_bipush ?_
          refine x_V3i tg_301 (Nat.le_of_ble_eq_true rfl) (ret_f (show ¬ (p < b ∧ 42 ≤ I 305 p ∧ I 305 p ≤ 42) from by omega) (s_isAt (d := d + 5) (I := I) hF (p := p) (b := b) h1.1 hx.1 hx.2.1 hpb hx.2.2 (lo := 42) (hi := 42) (by omega) (by omega))) ?_
          exact rfl
        apply t_Q
        · apply t_K
          apply t_Qs
          apply t_B
          · exact rfl
          exact t_if_eq_t (by omega)
        apply t_Q
        · apply t_S
          refine x_aload_n rfl ?_
          refine x_bipush ?_
          refine x_bipush ?_
          refine x_V3i tg_301 (Nat.le_of_ble_eq_true rfl) (ret_f (show ¬ (p < b ∧ 43 ≤ I 305 p ∧ I 305 p ≤ 43) from by omega) (s_isAt (d := d + 5) (I := I) hF (p := p) (b := b) h1.1 hx.1 hx.2.1 hpb hx.2.2 (lo := 43) (hi := 43) (by omega) (by omega))) ?_
          exact rfl
        apply t_Qs
        apply t_Ks
        · apply t_Q
          · apply t_Ks
            · apply t_Q
              · apply t_B
                · exact rfl
                exact t_if_ne_f (by omega)
              apply t_B
              · refine x_aload_n rfl ?_
                refine x_bipush ?_
                refine x_bipush ?_
                refine x_V3i tg_301 (Nat.le_of_ble_eq_true rfl) (ret_t (show p < b ∧ 45 ≤ I 305 p ∧ I 305 p ≤ 45 from by omega) (s_isAt (d := d + 5) (I := I) hF (p := p) (b := b) h1.1 hx.1 hx.2.1 hpb hx.2.2 (lo := 45) (hi := 45) (by omega) (by omega))) ?_
                exact rfl
              exact t_if_eq_f (by omega)
            · decide
          apply t_Q
          · apply t_S
            refine x_aload_n rfl ?_
            refine x_V1v tg_301 (Nat.le_of_ble_eq_true rfl) (hcl) ?_
            refine x_aload_n rfl ?_
            refine x_gr tg_301 rfl (fx_301_25 hF) ?_
            refine x_aload_n rfl ?_
            refine x_giv tg_301 rfl (show _ = ((e : Nat) : Int) from j1.2.1) ?_
            refine x_aload_n rfl ?_
            refine x_gr tg_301 rfl (fx_301_4 hF) ?_
            refine x_aload_n rfl ?_
            refine x_giv tg_301 rfl (show _ = ((p : Nat) : Int) from j1.1) ?_
            refine x_ialdv (Or.inl tg_305) (ln_305 L) (by omega) (show _ = I 305 p from by rw [j305]; rfl) ?_
            refine x_bipush ?_
            exact rfl
          apply t_Q
          · apply t_K
            apply t_Qs
            apply t_Ks
            · apply t_Q
              · apply t_B
                · exact rfl
                exact t_ic_ne_f (by omega)
              apply t_B
              · refine x_iconst ?_
                exact rfl
              exact t_goto
            · decide
          apply t_B
          · refine x_bast tg_315 (ln_315 L) (by omega) (by first | decide | omega) ?_
            refine x_aload_n rfl ?_
            refine x_dup rfl ?_
            refine x_giv tg_301 rfl (show _ = ((p : Nat) : Int) from j1.1) ?_
            refine x_iconst ?_
            refine x_iadd ?_
            refine x_pi tg_301 rfl rfl ?_
            refine x_aload_n rfl ?_
            refine x_iconst ?_
            refine x_pi tg_301 rfl (by first | rfl | exact decide_eq_true (by omega)) ?_
            refine x_aload_n rfl ?_
            refine x_iconst ?_
            refine x_pi tg_301 rfl (by first | rfl | exact decide_eq_true (by omega)) ?_
            refine x_iconst ?_
            exact rfl
          exact t_ireq (Or.inr (Or.inr rfl)) rfl rfl
        · decide
      · have c4 : I 305 p = 43 := by omega
        have ex : sgR w (I 305) b p e la mm fu mi hp su pr = (1, 0, (p + 1, e, 1, 0, fu, au mi e 0, au hp e 0, cloS e mi su pr, pr)) := by unfold sgR; rw [if_neg c1, if_pos c2, if_neg c3]
        rw [ex]
        refine ⟨(au (au (au (au J 315 (au (J 315) e 0)) 301 (au ((au J 315 (au (J 315) e 0)) 301) 18 ((p : Int) + 1))) 301 (au ((au (au J 315 (au (J 315) e 0)) 301 (au ((au J 315 (au (J 315) e 0)) 301) 18 ((p : Int) + 1))) 301) 21 1)) 301 (au ((au (au (au J 315 (au (J 315) e 0)) 301 (au ((au J 315 (au (J 315) e 0)) 301) 18 ((p : Int) + 1))) 301 (au ((au (au J 315 (au (J 315) e 0)) 301 (au ((au J 315 (au (J 315) e 0)) 301) 18 ((p : Int) + 1))) 301) 21 1)) 301) 22 0)), ?_, Fr_f (f := 22) (Fr_f (f := 21) (Fr_f (f := 18) (Fr_a (a := 315) hFJ (by omega)) (by omega)) (by omega)) (by omega), Or.inr rfl, fun _ => ⟨⟨⟨by show (p : Int) + 1 = ((p + 1 : Nat) : Int); omega, j1.2.1, rfl, rfl, j1.2.2.2.2.1, j1.2.2.2.2.2.1, fun k hk => by
            show (if k = e then (0 : Int) else J 315 k) = (if k = e then 0 else mi k)
            rw [j1.2.2.2.2.2.2.1 k hk], j1.2.2.2.2.2.2.2⟩, ⟨h2.1, h2.2.1, Or.inr rfl, Or.inl rfl, h2.2.2.2.2.1, b_au h2.2.2.2.2.2.1 (by decide), j2.2.2.2.2.2.2⟩, j3⟩, hpl⟩, fun z => ab1 z⟩
        refine run_of tb_X12_takesSign (Nat.le_of_ble_eq_true rfl) ?_
        show ∃ ls', am_ev (am_run am_tb (d + 7)) tX12_takesSign ([vR 301], [], LH L I R u) = some (1, ls', [vI (1)], LH L ((au (au (au (au J 315 (au (J 315) e 0)) 301 (au ((au J 315 (au (J 315) e 0)) 301) 18 ((p : Int) + 1))) 301 (au ((au (au J 315 (au (J 315) e 0)) 301 (au ((au J 315 (au (J 315) e 0)) 301) 18 ((p : Int) + 1))) 301) 21 1)) 301 (au ((au (au (au J 315 (au (J 315) e 0)) 301 (au ((au J 315 (au (J 315) e 0)) 301) 18 ((p : Int) + 1))) 301 (au ((au (au J 315 (au (J 315) e 0)) 301 (au ((au J 315 (au (J 315) e 0)) 301) 18 ((p : Int) + 1))) 301) 21 1)) 301) 22 0))) R u)
        apply Exists.intro
        unfold tX12_takesSign
        apply t_Q
        · apply t_S
          refine x_aload_n rfl ?_
          refine x_bipush ?_
          refine x_bipush ?_
          refine x_V3i tg_301 (Nat.le_of_ble_eq_true rfl) (ret_f (show ¬ (p < b ∧ 42 ≤ I 305 p ∧ I 305 p ≤ 42) from by omega) (s_isAt (d := d + 5) (I := I) hF (p := p) (b := b) h1.1 hx.1 hx.2.1 hpb hx.2.2 (lo := 42) (hi := 42) (by omega) (by omega))) ?_
          exact rfl
        apply t_Q
        · apply t_K
          apply t_Qs
          apply t_B
          · exact rfl
          exact t_if_eq_t (by omega)
        apply t_Q
        · apply t_S
          refine x_aload_n rfl ?_
          refine x_bipush ?_
          refine x_bipush ?_
          refine x_V3i tg_301 (Nat.le_of_ble_eq_true rfl) (ret_t (show p < b ∧ 43 ≤ I 305 p ∧ I 305 p ≤ 43 from by omega) (s_isAt (d := d + 5) (I := I) hF (p := p) (b := b) h1.1 hx.1 hx.2.1 hpb hx.2.2 (lo := 43) (hi := 43) (by omega) (by omega))) ?_
          exact rfl
        apply t_Qs
        apply t_Ks
        · apply t_Q
          · apply t_K
            apply t_Qs
            apply t_B
            · exact rfl
            exact t_if_ne_t (by omega)
          apply t_Q
          · apply t_S
            refine x_aload_n rfl ?_
            refine x_V1v tg_301 (Nat.le_of_ble_eq_true rfl) (hcl) ?_
            refine x_aload_n rfl ?_
            refine x_gr tg_301 rfl (fx_301_25 hF) ?_
            refine x_aload_n rfl ?_
            refine x_giv tg_301 rfl (show _ = ((e : Nat) : Int) from j1.2.1) ?_
            refine x_aload_n rfl ?_
            refine x_gr tg_301 rfl (fx_301_4 hF) ?_
            refine x_aload_n rfl ?_
            refine x_giv tg_301 rfl (show _ = ((p : Nat) : Int) from j1.1) ?_
            refine x_ialdv (Or.inl tg_305) (ln_305 L) (by omega) (show _ = I 305 p from by rw [j305]; rfl) ?_
            refine x_bipush ?_
            exact rfl
          apply t_Q
          · apply t_Ks
            · apply t_Q
              · apply t_K
                apply t_Qs
                apply t_B
                · exact rfl
                exact t_ic_ne_t (by omega)
              apply t_S
              refine x_iconst ?_
              exact rfl
            · decide
          apply t_B
          · refine x_bast tg_315 (ln_315 L) (by omega) (by first | decide | omega) ?_
            refine x_aload_n rfl ?_
            refine x_dup rfl ?_
            refine x_giv tg_301 rfl (show _ = ((p : Nat) : Int) from j1.1) ?_
            refine x_iconst ?_
            refine x_iadd ?_
            refine x_pi tg_301 rfl rfl ?_
            refine x_aload_n rfl ?_
            refine x_iconst ?_
            refine x_pi tg_301 rfl (by first | rfl | exact decide_eq_true (by omega)) ?_
            refine x_aload_n rfl ?_
            refine x_iconst ?_
            refine x_pi tg_301 rfl (by first | rfl | exact decide_eq_true (by omega)) ?_
            refine x_iconst ?_
            exact rfl
          exact t_ireq (Or.inr (Or.inr rfl)) rfl rfl
        · decide
    · by_cases c5 : I 305 p = 41 ∧ ¬ e = 0
      · obtain ⟨J, hcl, hFJ, j1, j2, j3⟩ := s_closes (d := d + 4) (L := L) (u := u) (I := I) hF hR hT h1 h2 h3 hh
        have j305 : J 305 = I 305 := hFJ.1 305 (by decide) (by decide)
        have c51 := c5.1
        have c52 := c5.2
        have ex : sgR w (I 305) b p e la mm fu mi hp su pr = pwR w (I 305) b (p + 1) (e - 1) mm fu mi (au hp e 0) (cloS e mi su pr) pr (cloS e mi su pr e) := by unfold sgR; rw [if_neg c1, if_neg c2, if_pos c5]
        rw [ex]
        have hcp := s_copies (d := d + 5) (L := L) (u := u) (I := J) hF (fr := 28 + e) (to := 27) (by omega) (by omega)
        have f1 : Fr I (au (au (sro J 27 (gro J (28 + e))) 301 (au ((sro J 27 (gro J (28 + e))) 301) 20 ((e : Int) - 1))) 301 (au ((au (sro J 27 (gro J (28 + e))) 301 (au ((sro J 27 (gro J (28 + e))) 301) 20 ((e : Int) - 1))) 301) 18 ((p : Int) + 1))) := Fr_f (f := 18) (Fr_f (f := 20) (Fr_s (r := 27) hFJ (by omega) (fun _ _ => hFJ.2.2.2.2 _)) (by omega)) (by omega)
        obtain ⟨P, hpw, hA⟩ := s_power (d := d) (L := L) (u := u) (I := (au (au (sro J 27 (gro J (28 + e))) 301 (au ((sro J 27 (gro J (28 + e))) 301) 20 ((e : Int) - 1))) 301 (au ((au (sro J 27 (gro J (28 + e))) 301 (au ((sro J 27 (gro J (28 + e))) 301) 20 ((e : Int) - 1))) 301) 18 ((p : Int) + 1)))) hF f1.2.2.2.2 (Fr_T f1 hT) (Txt_Fr hx f1) (p := p + 1) (by omega) (w := w) (e := e - 1) (la := la) (mm := mm) (fu := fu) (mi := mi) (hp := au hp e 0) (su := cloS e mi su pr) (pr := pr) ⟨by show (p : Int) + 1 = ((p + 1 : Nat) : Int); omega, by show (e : Int) - 1 = ((e - 1 : Nat) : Int); omega, j1.2.2⟩ ⟨by omega, j2.2⟩ (fun zw zf k hk => by
          have a := j3 zw zf k (by omega)
          exact ⟨fun v hv => (show gro (sro J 27 (gro J (28 + e))) (28 + k) v = _ from gro_n hv (by omega)).trans (a.1 v hv), a.2.1, fun z => ⟨fun v hv => (show gro (sro J 27 (gro J (28 + e))) (37 + k) v = _ from gro_n hv (by omega)).trans ((a.2.2 z).1 v hv), (a.2.2 z).2⟩⟩) (y := cloS e mi su pr e) (fun zw zf v hv => (show gro (sro J 27 (gro J (28 + e))) 27 v = _ from gro_s hv).trans ((j3 zw zf e (Nat.le_refl _)).1 v hv))
        have q305 : (au (au (sro J 27 (gro J (28 + e))) 301 (au ((sro J 27 (gro J (28 + e))) 301) 20 ((e : Int) - 1))) 301 (au ((au (sro J 27 (gro J (28 + e))) 301 (au ((sro J 27 (gro J (28 + e))) 301) 20 ((e : Int) - 1))) 301) 18 ((p : Int) + 1))) 305 = I 305 := j305
        rw [q305] at hpw hA
        have hab := hA.2.1
        refine ⟨P, ?_, Ans_Fr f1 hA⟩
        generalize pwR w (I 305) b (p + 1) (e - 1) mm fu mi (au hp e 0) (cloS e mi su pr) pr (cloS e mi su pr e) = PR at *
        refine run_of tb_X12_takesSign (Nat.le_of_ble_eq_true rfl) ?_
        show ∃ ls', am_ev (am_run am_tb (d + 7)) tX12_takesSign ([vR 301], [], LH L I R u) = some (1, ls', [vI (PR.1)], LH L (P) R u)
        apply Exists.intro
        unfold tX12_takesSign
        apply t_Q
        · apply t_S
          refine x_aload_n rfl ?_
          refine x_bipush ?_
          refine x_bipush ?_
          refine x_V3i tg_301 (Nat.le_of_ble_eq_true rfl) (ret_f (show ¬ (p < b ∧ 42 ≤ I 305 p ∧ I 305 p ≤ 42) from by omega) (s_isAt (d := d + 5) (I := I) hF (p := p) (b := b) h1.1 hx.1 hx.2.1 hpb hx.2.2 (lo := 42) (hi := 42) (by omega) (by omega))) ?_
          exact rfl
        apply t_Q
        · apply t_K
          apply t_Qs
          apply t_B
          · exact rfl
          exact t_if_eq_t (by omega)
        apply t_Q
        · apply t_S
          refine x_aload_n rfl ?_
          refine x_bipush ?_
          refine x_bipush ?_
          refine x_V3i tg_301 (Nat.le_of_ble_eq_true rfl) (ret_f (show ¬ (p < b ∧ 43 ≤ I 305 p ∧ I 305 p ≤ 43) from by omega) (s_isAt (d := d + 5) (I := I) hF (p := p) (b := b) h1.1 hx.1 hx.2.1 hpb hx.2.2 (lo := 43) (hi := 43) (by omega) (by omega))) ?_
          exact rfl
        apply t_Q
        · apply t_K
          apply t_Qs
          apply t_Ks
          · apply t_Q
            · apply t_B
              · exact rfl
              exact t_if_ne_f (by omega)
            apply t_B
            · refine x_aload_n rfl ?_
              refine x_bipush ?_
              refine x_bipush ?_
              refine x_V3i tg_301 (Nat.le_of_ble_eq_true rfl) (ret_f (show ¬ (p < b ∧ 45 ≤ I 305 p ∧ I 305 p ≤ 45) from by omega) (s_isAt (d := d + 5) (I := I) hF (p := p) (b := b) h1.1 hx.1 hx.2.1 hpb hx.2.2 (lo := 45) (hi := 45) (by omega) (by omega))) ?_
              exact rfl
            exact t_if_eq_t (by omega)
          · decide
        apply t_Q
        · apply t_S
          refine x_aload_n rfl ?_
          refine x_bipush ?_
          refine x_bipush ?_
          refine x_V3i tg_301 (Nat.le_of_ble_eq_true rfl) (ret_t (show p < b ∧ 41 ≤ I 305 p ∧ I 305 p ≤ 41 from by omega) (s_isAt (d := d + 5) (I := I) hF (p := p) (b := b) h1.1 hx.1 hx.2.1 hpb hx.2.2 (lo := 41) (hi := 41) (by omega) (by omega))) ?_
          exact rfl
        apply t_Q
        · apply t_K
          apply t_Qs
          apply t_Ks
          · apply t_Q
            · apply t_B
              · exact rfl
              exact t_if_eq_f (by omega)
            apply t_B
            · refine x_aload_n rfl ?_
              refine x_giv tg_301 rfl (show _ = ((e : Nat) : Int) from h1.2.1) ?_
              exact rfl
            exact t_if_ne_t (by omega)
          · decide
        apply t_B
        · refine x_aload_n rfl ?_
          refine x_V1v tg_301 (Nat.le_of_ble_eq_true rfl) (hcl) ?_
          refine x_aload_n rfl ?_
          refine x_bipush ?_
          refine x_aload_n rfl ?_
          refine x_giv tg_301 rfl (show _ = ((e : Nat) : Int) from j1.2.1) ?_
          refine x_iadd ?_
          rw [show (28 : Int) + ((e : Nat) : Int) = ((28 + e : Nat) : Int) by omega]
          refine x_bipush ?_
          refine x_V3v tg_301 (Nat.le_of_ble_eq_true rfl) (hcp) ?_
          refine x_aload_n rfl ?_
          refine x_dup rfl ?_
          refine x_giv tg_301 rfl (show _ = ((e : Nat) : Int) from j1.2.1) ?_
          refine x_iconst ?_
          refine x_isub ?_
          refine x_pi tg_301 rfl rfl ?_
          refine x_aload_n rfl ?_
          refine x_dup rfl ?_
          refine x_giv tg_301 rfl (show _ = ((p : Nat) : Int) from j1.1) ?_
          refine x_iconst ?_
          refine x_iadd ?_
          refine x_pi tg_301 rfl rfl ?_
          refine x_aload_n rfl ?_
          refine x_V1i tg_301 (Nat.le_of_ble_eq_true rfl) (hpw) ?_
          exact rfl
        exact t_ireq (Or.inr hab) rfl rfl
      · have ex : sgR w (I 305) b p e la mm fu mi hp su pr = (0, p, (p, e, la, mm, fu, mi, hp, su, pr)) := by unfold sgR; rw [if_neg c1, if_neg c2, if_neg c5]
        rw [ex]
        refine ⟨au I 301 (au (I 301) 19 (p : Int)), ?_, Fr_f (Fr_r hR) (by omega), Or.inl rfl, fun z => ab0 z, fun _ => ⟨rfl, hpb, (show Bol I from Bol_of h1 h2)⟩⟩
        refine run_of tb_X12_takesSign (Nat.le_of_ble_eq_true rfl) ?_
        show ∃ ls', am_ev (am_run am_tb (d + 7)) tX12_takesSign ([vR 301], [], LH L I R u) = some (1, ls', [vI (0)], LH L (au I 301 (au (I 301) 19 (p : Int))) R u)
        by_cases c6 : I 305 p = 41
        · have c7 : e = 0 := by omega
          apply Exists.intro
          unfold tX12_takesSign
          apply t_Q
          · apply t_S
            refine x_aload_n rfl ?_
            refine x_bipush ?_
            refine x_bipush ?_
            refine x_V3i tg_301 (Nat.le_of_ble_eq_true rfl) (ret_f (show ¬ (p < b ∧ 42 ≤ I 305 p ∧ I 305 p ≤ 42) from by omega) (s_isAt (d := d + 5) (I := I) hF (p := p) (b := b) h1.1 hx.1 hx.2.1 hpb hx.2.2 (lo := 42) (hi := 42) (by omega) (by omega))) ?_
            exact rfl
          apply t_Q
          · apply t_K
            apply t_Qs
            apply t_B
            · exact rfl
            exact t_if_eq_t (by omega)
          apply t_Q
          · apply t_S
            refine x_aload_n rfl ?_
            refine x_bipush ?_
            refine x_bipush ?_
            refine x_V3i tg_301 (Nat.le_of_ble_eq_true rfl) (ret_f (show ¬ (p < b ∧ 43 ≤ I 305 p ∧ I 305 p ≤ 43) from by omega) (s_isAt (d := d + 5) (I := I) hF (p := p) (b := b) h1.1 hx.1 hx.2.1 hpb hx.2.2 (lo := 43) (hi := 43) (by omega) (by omega))) ?_
            exact rfl
          apply t_Q
          · apply t_K
            apply t_Qs
            apply t_Ks
            · apply t_Q
              · apply t_B
                · exact rfl
                exact t_if_ne_f (by omega)
              apply t_B
              · refine x_aload_n rfl ?_
                refine x_bipush ?_
                refine x_bipush ?_
                refine x_V3i tg_301 (Nat.le_of_ble_eq_true rfl) (ret_f (show ¬ (p < b ∧ 45 ≤ I 305 p ∧ I 305 p ≤ 45) from by omega) (s_isAt (d := d + 5) (I := I) hF (p := p) (b := b) h1.1 hx.1 hx.2.1 hpb hx.2.2 (lo := 45) (hi := 45) (by omega) (by omega))) ?_
                exact rfl
              exact t_if_eq_t (by omega)
            · decide
          apply t_Q
          · apply t_S
            refine x_aload_n rfl ?_
            refine x_bipush ?_
            refine x_bipush ?_
            refine x_V3i tg_301 (Nat.le_of_ble_eq_true rfl) (ret_t (show p < b ∧ 41 ≤ I 305 p ∧ I 305 p ≤ 41 from by omega) (s_isAt (d := d + 5) (I := I) hF (p := p) (b := b) h1.1 hx.1 hx.2.1 hpb hx.2.2 (lo := 41) (hi := 41) (by omega) (by omega))) ?_
            exact rfl
          apply t_Qs
          apply t_Ks
          · apply t_Q
            · apply t_Ks
              · apply t_Q
                · apply t_B
                  · exact rfl
                  exact t_if_eq_f (by omega)
                apply t_B
                · refine x_aload_n rfl ?_
                  refine x_giv tg_301 rfl (show _ = ((e : Nat) : Int) from h1.2.1) ?_
                  exact rfl
                exact t_if_ne_f (by omega)
              · decide
            apply t_B
            · refine x_aload_n rfl ?_
              refine x_aload_n rfl ?_
              refine x_giv tg_301 rfl (show _ = ((p : Nat) : Int) from h1.1) ?_
              refine x_V2i tg_301 (Nat.le_of_ble_eq_true rfl) (s_fails (d := d + 6) hF) ?_
              exact rfl
            exact t_ireq (Or.inr (Or.inl rfl)) rfl rfl
          · decide
        · apply Exists.intro
          unfold tX12_takesSign
          apply t_Q
          · apply t_S
            refine x_aload_n rfl ?_
            refine x_bipush ?_
            refine x_bipush ?_
            refine x_V3i tg_301 (Nat.le_of_ble_eq_true rfl) (ret_f (show ¬ (p < b ∧ 42 ≤ I 305 p ∧ I 305 p ≤ 42) from by omega) (s_isAt (d := d + 5) (I := I) hF (p := p) (b := b) h1.1 hx.1 hx.2.1 hpb hx.2.2 (lo := 42) (hi := 42) (by omega) (by omega))) ?_
            exact rfl
          apply t_Q
          · apply t_K
            apply t_Qs
            apply t_B
            · exact rfl
            exact t_if_eq_t (by omega)
          apply t_Q
          · apply t_S
            refine x_aload_n rfl ?_
            refine x_bipush ?_
            refine x_bipush ?_
            refine x_V3i tg_301 (Nat.le_of_ble_eq_true rfl) (ret_f (show ¬ (p < b ∧ 43 ≤ I 305 p ∧ I 305 p ≤ 43) from by omega) (s_isAt (d := d + 5) (I := I) hF (p := p) (b := b) h1.1 hx.1 hx.2.1 hpb hx.2.2 (lo := 43) (hi := 43) (by omega) (by omega))) ?_
            exact rfl
          apply t_Q
          · apply t_K
            apply t_Qs
            apply t_Ks
            · apply t_Q
              · apply t_B
                · exact rfl
                exact t_if_ne_f (by omega)
              apply t_B
              · refine x_aload_n rfl ?_
                refine x_bipush ?_
                refine x_bipush ?_
                refine x_V3i tg_301 (Nat.le_of_ble_eq_true rfl) (ret_f (show ¬ (p < b ∧ 45 ≤ I 305 p ∧ I 305 p ≤ 45) from by omega) (s_isAt (d := d + 5) (I := I) hF (p := p) (b := b) h1.1 hx.1 hx.2.1 hpb hx.2.2 (lo := 45) (hi := 45) (by omega) (by omega))) ?_
                exact rfl
              exact t_if_eq_t (by omega)
            · decide
          apply t_Q
          · apply t_S
            refine x_aload_n rfl ?_
            refine x_bipush ?_
            refine x_bipush ?_
            refine x_V3i tg_301 (Nat.le_of_ble_eq_true rfl) (ret_f (show ¬ (p < b ∧ 41 ≤ I 305 p ∧ I 305 p ≤ 41) from by omega) (s_isAt (d := d + 5) (I := I) hF (p := p) (b := b) h1.1 hx.1 hx.2.1 hpb hx.2.2 (lo := 41) (hi := 41) (by omega) (by omega))) ?_
            exact rfl
          apply t_Qs
          apply t_Ks
          · apply t_Q
            · apply t_K
              apply t_Qs
              apply t_B
              · exact rfl
              exact t_if_eq_t (by omega)
            apply t_B
            · refine x_aload_n rfl ?_
              refine x_aload_n rfl ?_
              refine x_giv tg_301 rfl (show _ = ((p : Nat) : Int) from h1.1) ?_
              refine x_V2i tg_301 (Nat.le_of_ble_eq_true rfl) (s_fails (d := d + 6) hF) ?_
              exact rfl
            exact t_ireq (Or.inr (Or.inl rfl)) rfl rfl
          · decide
