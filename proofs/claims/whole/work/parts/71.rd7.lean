/-! The reference's reader: isRead. Written by wip/whole/gen_71.py. -/
noncomputable def stR (w : Int) (T : Nat → Int) (b : Nat) (s : rdT) : Int × Nat × rdT := if s.2.2.1 = 1 then fcR w T b s.1 s.2.1 s.2.2.1 s.2.2.2.1 s.2.2.2.2.1 s.2.2.2.2.2.1 s.2.2.2.2.2.2.1 s.2.2.2.2.2.2.2.1 s.2.2.2.2.2.2.2.2 else sgR w T b s.1 s.2.1 s.2.2.1 s.2.2.2.1 s.2.2.2.2.1 s.2.2.2.2.2.1 s.2.2.2.2.2.2.1 s.2.2.2.2.2.2.2.1 s.2.2.2.2.2.2.2.2
def skS (T : Nat → Int) (b : Nat) (s : rdT) : rdT := (skb T b s.1, s.2)
noncomputable def rdG (w : Int) (T : Nat → Int) (b : Nat) : Nat → rdT → Int × Nat × rdT
  | 0, s => (1, 0, s)
  | n + 1, s => if s.1 < b then (if (stR w T b s).1 = 0 then stR w T b s else rdG w T b n (skS T b (stR w T b s).2.2)) else (1, 0, s)
/-- where no factor lacks, there is a product -/
def Lk (s : rdT) : Prop := s.2.2.1 = 1 ∨ (s.2.2.1 = 0 ∧ s.2.2.2.2.2.2.1 s.2.1 = 1)
theorem pwR_ok {w : Int} {T : Nat → Int} {b p e : Nat} {mm fu : Int} {mi hp : Nat → Int} {su pr : Nat → Nat → Int} {y : Nat → Int} (h : p ≤ b) (h1 : (pwR w T b p e mm fu mi hp su pr y).1 = 1) : p ≤ (pwR w T b p e mm fu mi hp su pr y).2.2.1 ∧ Lk (pwR w T b p e mm fu mi hp su pr y).2.2 := by
  have a := skb_le (T := T) h
  by_cases c : pwc T b p
  · by_cases k : pwk T b p
    · have e1 : pwR w T b p e mm fu mi hp su pr y = (1, 0, (pwe T b p, e, 0, mm, tkU w fu hp e pr y (pwn T b p), mi, au hp e 1, su, tkQ hp e pr y (pwn T b p))) := by unfold pwR; rw [if_pos c, if_pos k]
      rw [e1]
      refine ⟨?_, Or.inr ⟨rfl, au_s _ _ _⟩⟩
      have a2 := skb_le (T := T) (b := b) (p := pw1 T b p + 1) (by have := c.1; omega)
      have e3 : pw3 T b p = skb T b (pw1 T b p + 1) := rfl
      have e4 : pw1 T b p = skb T b p := rfl
      show p ≤ pwe T b p
      unfold pwe
      omega
    · have e1 : pwR w T b p e mm fu mi hp su pr y = (0, pww T b p, (p, e, 0, mm, fu, mi, hp, su, pr)) := by unfold pwR; rw [if_pos c, if_neg k]
      rw [e1] at h1
      exact ab0 h1
  · have e1 : pwR w T b p e mm fu mi hp su pr y = (1, 0, (pw1 T b p, e, 0, mm, tkU w fu hp e pr y 1, mi, au hp e 1, su, tkQ hp e pr y 1)) := by unfold pwR; rw [if_neg c]
    rw [e1]
    exact ⟨a.1, Or.inr ⟨rfl, au_s _ _ _⟩⟩
theorem stR_ok {w : Int} {T : Nat → Int} {b : Nat} {s : rdT} (h : s.1 < b) (hl : Lk s) (h1 : (stR w T b s).1 = 1) : s.1 < (stR w T b s).2.2.1 ∧ Lk (stR w T b s).2.2 := by
  unfold stR at h1 ⊢
  by_cases c : s.2.2.1 = 1
  · rw [if_pos c] at h1 ⊢
    unfold fcR at h1 ⊢
    by_cases c1 : T s.1 = 45 ∧ s.2.2.2.1 = 1
    · rw [if_pos c1]
      exact ⟨Nat.lt_succ_self _, Or.inl c⟩
    · rw [if_neg c1] at h1 ⊢
      by_cases c2 : T s.1 = 40
      · rw [if_pos c2] at h1 ⊢
        by_cases c3 : s.2.1 = 8
        · rw [if_pos c3] at h1
          exact ab0 h1
        · rw [if_neg c3]
          exact ⟨Nat.lt_succ_self _, Or.inl rfl⟩
      · rw [if_neg c2] at h1 ⊢
        by_cases c4 : 48 ≤ T s.1 ∧ T s.1 ≤ 57
        · rw [if_pos c4] at h1 ⊢
          have hd1 : 0 < dgc T b s.1 := by
            refine Nat.pos_of_ne_zero fun z => ?_
            have := dgc_yes (T := T) (b := b) (p := s.1) (by omega)
            rw [z, Nat.add_zero] at this
            exact this c4
          have hdl := dgc_le T b s.1
          by_cases c5 : 4 < dgc T b s.1
          · rw [if_pos c5] at h1
            exact ab0 h1
          · rw [if_neg c5] at h1 ⊢
            have := pwR_ok (show s.1 + dgc T b s.1 ≤ b by omega) h1
            exact ⟨by omega, this.2⟩
        · rw [if_neg c4] at h1 ⊢
          by_cases c6 : T s.1 = 120
          · rw [if_pos c6] at h1 ⊢
            have := pwR_ok (show s.1 + 1 ≤ b by omega) h1
            exact ⟨by omega, this.2⟩
          · rw [if_neg c6] at h1 ⊢
            by_cases c7 : T s.1 = 100
            · rw [if_pos c7] at h1 ⊢
              have := pwR_ok (show s.1 + 1 ≤ b by omega) h1
              exact ⟨by omega, this.2⟩
            · rw [if_neg c7] at h1
              exact ab0 h1
  · rw [if_neg c] at h1 ⊢
    unfold sgR at h1 ⊢
    by_cases c1 : T s.1 = 42
    · rw [if_pos c1]
      exact ⟨Nat.lt_succ_self _, Or.inl rfl⟩
    · rw [if_neg c1] at h1 ⊢
      by_cases c2 : T s.1 = 43 ∨ T s.1 = 45
      · rw [if_pos c2]
        exact ⟨Nat.lt_succ_self _, Or.inl rfl⟩
      · rw [if_neg c2] at h1 ⊢
        by_cases c3 : T s.1 = 41 ∧ ¬ s.2.1 = 0
        · rw [if_pos c3] at h1 ⊢
          have := pwR_ok (show s.1 + 1 ≤ b by omega) h1
          exact ⟨by omega, this.2⟩
        · rw [if_neg c3] at h1
          exact ab0 h1
theorem s_step {d L : Nat} {I : Nat → Nat → Int} {R : Nat → Nat → Option Nat} {u : Int64} (hF : FixR R) {w : Int} {b : Nat} {s : rdT} (hR : Res I) (hT : Tabs I) (hx : Txt I b) (hs : Rd I w s) (hpl : s.1 < b) (hl : Lk s) : ∃ J, am_run am_tb (d + 8) (if s.2.2.1 = 1 then 216 else 217) [vR 301] (LH L I R u) = some ([vI (stR w (I 305) b s).1], LH L J R u) ∧ Ans I J w b (stR w (I 305) b s) := by
  unfold stR
  by_cases c : s.2.2.1 = 1
  · rw [if_pos c, if_pos c]
    exact s_factor (d := d) (L := L) (u := u) (I := I) hF hR hT hx (Nat.le_of_lt hpl) hs.1 hs.2.1 hs.2.2 hpl
  · rw [if_neg c, if_neg c]
    have hh : s.2.2.2.2.2.2.1 s.2.1 = 1 := by
      cases hl with
      | inl z => exact absurd z c
      | inr z => exact z.2
    exact s_sign (d := d) (L := L) (u := u) (I := I) hF hR hT hx (Nat.le_of_lt hpl) hs.1 hs.2.1 hs.2.2 hh hpl
theorem Rd_sk {I : Nat → Nat → Int} {w : Int} {b : Nat} {s : rdT} (hs : Rd I w s) : Rd (spI I (skb (I 305) b s.1)) w (skS (I 305) b s) := ⟨RdF_sp hs.1, hs.2.1, hs.2.2⟩
set_option maxRecDepth 10000 in
theorem lp_read {d L : Nat} {I : Nat → Nat → Int} {R : Nat → Nat → Option Nat} {u : Int64} (hF : FixR R) {w : Int} {b : Nat} {s0 : rdT} (hR : Res I) (hT : Tabs I) (hx : Txt I b) (hs0 : Rd I w s0) (hb0 : s0.1 ≤ b) (hl0 : Lk s0) : ∃ J, Fr I J ∧ (((rdG w (I 305) b (b + 1) s0).1 = 0 ∧ am_lp (am_ev (am_run am_tb (d + 8)) wX12_isRead_28) 28 am_F ([vR 301, vI w], [], LH L I R u) = some (1, [vR 301, vI w], [vI 0], LH L J R u) ∧ J 301 19 = ((rdG w (I 305) b (b + 1) s0).2.1 : Nat) ∧ (rdG w (I 305) b (b + 1) s0).2.1 ≤ b ∧ Bol J) ∨ ((rdG w (I 305) b (b + 1) s0).1 = 1 ∧ am_lp (am_ev (am_run am_tb (d + 8)) wX12_isRead_28) 28 am_F ([vR 301, vI w], [], LH L I R u) = some (74, [vR 301, vI w], [], LH L J R u) ∧ Rd J w (rdG w (I 305) b (b + 1) s0).2.2 ∧ Lk (rdG w (I 305) b (b + 1) s0).2.2)) := by
  have hb2 := hx.2.1
  have key := lp_meas (f := am_ev (am_run am_tb (d + 8)) wX12_isRead_28) (L := 28) (fun n x => ∃ J s, x = ([vR 301, vI w], [], LH L J R u) ∧ Fr I J ∧ Rd J w s ∧ s.1 ≤ b ∧ Lk s ∧ b - s.1 < n ∧ rdG w (I 305) b n s = rdG w (I 305) b (b + 1) s0) (fun r => ∃ J, Fr I J ∧ (((rdG w (I 305) b (b + 1) s0).1 = 0 ∧ r = (1, [vR 301, vI w], [vI 0], LH L J R u) ∧ J 301 19 = ((rdG w (I 305) b (b + 1) s0).2.1 : Nat) ∧ (rdG w (I 305) b (b + 1) s0).2.1 ≤ b ∧ Bol J) ∨ ((rdG w (I 305) b (b + 1) s0).1 = 1 ∧ r = (74, [vR 301, vI w], [], LH L J R u) ∧ Rd J w (rdG w (I 305) b (b + 1) s0).2.2 ∧ Lk (rdG w (I 305) b (b + 1) s0).2.2))) (fun n x hp => ?_) am_F (b + 1) ([vR 301, vI w], [], LH L I R u) (ltF (by omega)) ⟨I, s0, rfl, Fr_r hR, hs0, hb0, hl0, by omega, rfl⟩
  · obtain ⟨r, e, J, hFJ, h⟩ := key
    refine ⟨J, hFJ, ?_⟩
    cases h with
    | inl h => exact Or.inl ⟨h.1, by rw [e, h.2.1], h.2.2⟩
    | inr h => exact Or.inr ⟨h.1, by rw [e, h.2.1], h.2.2⟩
  · obtain ⟨J, s, ex, hFJ, hs, hsb, hl, hn, hG⟩ := hp
    have hxJ := Txt_Fr hx hFJ
    have hTJ := Fr_T hFJ hT
    have j305 : J 305 = I 305 := hFJ.1 305 (by decide) (by decide)
    rw [ex]
    cases n with
    | zero => omega
    | succ n =>
      by_cases c : s.1 < b
      · obtain ⟨K, hst, hA⟩ := s_step (d := d) (L := L) (u := u) (I := J) hF hFJ.2.2.2.2 hTJ hxJ hs c hl
        rw [j305] at hst hA
        have hab := hA.2.1
        have hok := fun z => stR_ok (w := w) (T := I 305) c hl z
        have hG2 : rdG w (I 305) b (n + 1) s = if (stR w (I 305) b s).1 = 0 then stR w (I 305) b s else rdG w (I 305) b n (skS (I 305) b (stR w (I 305) b s).2.2) := if_pos c
        generalize stR w (I 305) b s = ST at *
        have hFK := Fr_t hFJ hA.1
        by_cases c1 : ST.1 = 0
        · rw [if_pos c1, hG] at hG2
          have a := hA.2.2.2 c1
          refine ⟨(1, [vR 301, vI w], [vI 0], LH L K R u), ?_, Or.inr ⟨by show ¬ 1 = 28 + 2; decide, K, hFK, Or.inl ⟨by rw [hG2]; exact c1, rfl, by rw [hG2]; exact a⟩⟩⟩
          rw [c1] at hst
          by_cases cl : s.2.2.1 = 1
          · rw [if_pos cl] at hst
            unfold wX12_isRead_28
            apply t_Q
            · apply t_B
              · refine x_aload_n rfl ?_
                refine x_giv tg_301 rfl (show _ = ((s.1 : Nat) : Int) from hs.1.1) ?_
                refine x_aload_n rfl ?_
                refine x_giv tg_301 rfl (show _ = ((b : Nat) : Int) from hxJ.1) ?_
                exact rfl
              exact t_ic_ge_f (by omega)
            apply t_Q
            · apply t_S
              refine x_aload_n rfl ?_
              refine x_giv tg_301 rfl (show _ = s.2.2.1 from hs.1.2.2.1) ?_
              exact rfl
            apply t_Qs
            apply t_Ks
            · apply t_Q
              · apply t_K
                apply t_Qs
                apply t_Ks
                · apply t_Q
                  · apply t_B
                    · exact rfl
                    exact t_if_eq_f (by omega)
                  apply t_Qs
                  apply t_B
                  · refine x_aload_n rfl ?_
                    refine x_V1i tg_301 (Nat.le_of_ble_eq_true rfl) (hst) ?_
                    exact rfl
                  exact t_if_eq_t (by omega)
                · decide
              apply t_B
              · refine x_iconst ?_
                exact rfl
              exact t_ireq (Or.inr (Or.inl rfl)) rfl rfl
            · decide
          · have cl0 : s.2.2.1 = 0 := by have := hs.2.1.2.2.1; omega
            rw [if_neg cl] at hst
            unfold wX12_isRead_28
            apply t_Q
            · apply t_B
              · refine x_aload_n rfl ?_
                refine x_giv tg_301 rfl (show _ = ((s.1 : Nat) : Int) from hs.1.1) ?_
                refine x_aload_n rfl ?_
                refine x_giv tg_301 rfl (show _ = ((b : Nat) : Int) from hxJ.1) ?_
                exact rfl
              exact t_ic_ge_f (by omega)
            apply t_Q
            · apply t_S
              refine x_aload_n rfl ?_
              refine x_giv tg_301 rfl (show _ = s.2.2.1 from hs.1.2.2.1) ?_
              exact rfl
            apply t_Qs
            apply t_Ks
            · apply t_Q
              · apply t_Ks
                · apply t_Q
                  · apply t_K
                    apply t_Qs
                    apply t_B
                    · exact rfl
                    exact t_if_eq_t (by omega)
                  apply t_B
                  · refine x_aload_n rfl ?_
                    refine x_V1i tg_301 (Nat.le_of_ble_eq_true rfl) (hst) ?_
                    exact rfl
                  exact t_if_ne_f (by omega)
                · decide
              apply t_B
              · refine x_iconst ?_
                exact rfl
              exact t_ireq (Or.inr (Or.inl rfl)) rfl rfl
            · decide
        · have c2 : ST.1 = 1 := by omega
          rw [if_neg c1] at hG2
          have a := hA.2.2.1 c2
          have hk := hok c2
          have k305 : K 305 = I 305 := hFK.1 305 (by decide) (by decide)
          have hxK := Txt_Fr hx hFK
          have hsk := skb_le (T := I 305) a.2
          have hbl := s_blanks (d := d + 5) (L := L) (u := u) (I := K) hF a.1.1.1 hxK.1 hxK.2.1 a.2 hxK.2.2
          rw [show ST.2.2.1 + nbl K ST.2.2.1 b = skb (K 305) b ST.2.2.1 from rfl, k305] at hbl
          have hrd := Rd_sk (b := b) a.1
          rw [k305] at hrd
          refine ⟨(28 + 2, ([vR 301, vI w], [], LH L (spI K (skb (I 305) b ST.2.2.1)) R u)), ?_, Or.inl ⟨rfl, n, Nat.lt_succ_self n, spI K (skb (I 305) b ST.2.2.1), skS (I 305) b ST.2.2, rfl, Fr_sp hFK, hrd, hsk.2, hk.2, by show b - skb (I 305) b ST.2.2.1 < n; omega, by rw [← hG2, hG]⟩⟩
          rw [c2] at hst
          by_cases cl : s.2.2.1 = 1
          · rw [if_pos cl] at hst
            unfold wX12_isRead_28
            apply t_Q
            · apply t_B
              · refine x_aload_n rfl ?_
                refine x_giv tg_301 rfl (show _ = ((s.1 : Nat) : Int) from hs.1.1) ?_
                refine x_aload_n rfl ?_
                refine x_giv tg_301 rfl (show _ = ((b : Nat) : Int) from hxJ.1) ?_
                exact rfl
              exact t_ic_ge_f (by omega)
            apply t_Q
            · apply t_S
              refine x_aload_n rfl ?_
              refine x_giv tg_301 rfl (show _ = s.2.2.1 from hs.1.2.2.1) ?_
              exact rfl
            apply t_Q
            · apply t_K
              apply t_Qs
              apply t_Ks
              · apply t_Qs
                apply t_Ks
                · apply t_Q
                  · apply t_B
                    · exact rfl
                    exact t_if_eq_f (by omega)
                  apply t_Q
                  · apply t_B
                    · refine x_aload_n rfl ?_
                      refine x_V1i tg_301 (Nat.le_of_ble_eq_true rfl) (hst) ?_
                      exact rfl
                    exact t_if_eq_f (by omega)
                  apply t_B
                  · exact rfl
                  exact t_goto
                · decide
              · decide
            apply t_B
            · refine x_aload_n rfl ?_
              refine x_V1v tg_301 (Nat.le_of_ble_eq_true rfl) (hbl) ?_
              exact rfl
            exact t_goto
          · have cl0 : s.2.2.1 = 0 := by have := hs.2.1.2.2.1; omega
            rw [if_neg cl] at hst
            unfold wX12_isRead_28
            apply t_Q
            · apply t_B
              · refine x_aload_n rfl ?_
                refine x_giv tg_301 rfl (show _ = ((s.1 : Nat) : Int) from hs.1.1) ?_
                refine x_aload_n rfl ?_
                refine x_giv tg_301 rfl (show _ = ((b : Nat) : Int) from hxJ.1) ?_
                exact rfl
              exact t_ic_ge_f (by omega)
            apply t_Q
            · apply t_S
              refine x_aload_n rfl ?_
              refine x_giv tg_301 rfl (show _ = s.2.2.1 from hs.1.2.2.1) ?_
              exact rfl
            apply t_Q
            · apply t_K
              apply t_Qs
              apply t_Ks
              · apply t_Q
                · apply t_K
                  apply t_Qs
                  apply t_B
                  · exact rfl
                  exact t_if_eq_t (by omega)
                apply t_B
                · refine x_aload_n rfl ?_
                  refine x_V1i tg_301 (Nat.le_of_ble_eq_true rfl) (hst) ?_
                  exact rfl
                exact t_if_ne_t (by omega)
              · decide
            apply t_B
            · refine x_aload_n rfl ?_
              refine x_V1v tg_301 (Nat.le_of_ble_eq_true rfl) (hbl) ?_
              exact rfl
            exact t_goto
      · have hG2 : rdG w (I 305) b (n + 1) s = (1, 0, s) := if_neg c
        rw [hG] at hG2
        refine ⟨(74, [vR 301, vI w], [], LH L J R u), ?_, Or.inr ⟨by show ¬ 74 = 28 + 2; decide, J, hFJ, Or.inr ⟨by rw [hG2], rfl, by rw [hG2]; exact hs, by rw [hG2]; exact hl⟩⟩⟩
        unfold wX12_isRead_28
        apply t_Qs
        apply t_B
        · refine x_aload_n rfl ?_
          refine x_giv tg_301 rfl (show _ = ((s.1 : Nat) : Int) from hs.1.1) ?_
          refine x_aload_n rfl ?_
          refine x_giv tg_301 rfl (show _ = ((b : Nat) : Int) from hxJ.1) ?_
          exact rfl
        exact t_ic_ge_t (by omega)
