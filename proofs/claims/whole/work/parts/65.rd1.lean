/-! The reference's reader: closes, takes. Written by wip/whole/gen_65.py. -/
section BAL
variable {G : am_G} {L : Nat} {I : Nat → Nat → Int} {R : Nat → Nat → Option Nat} {u : Int64} {ls st : List am_V} {z : Nat × Nat × Nat} {rr : List am_I} {Y : Option am_S}
theorem x_baldv {a n : Nat} {i v : Int} (ht : tg a = 21) (hn : ln L a = n) (hi : 0 ≤ i ∧ i < n ∧ n ≤ 100000) (hv : I a i.toNat = v) (k : am_L G rr (ls, vI v :: st, LH L I R u) = Y) : am_L G ((.baload, z) :: rr) (ls, vI i :: vR a :: st, LH L I R u) = Y := by
  subst hv; exact x_bald ht hn hi k
end BAL
theorem Fr_f {I J : Nat → Nat → Int} {f : Nat} {v : Int} (h : Fr I J) (hf : f ≠ 2 ∧ f ≠ 5 ∧ f ≠ 16 ∧ f ≠ 17) : Fr I (au J 301 (au (J 301) f v)) := Fr_t h ⟨fun a _ q => au_n _ _ q, ⟨rfl, rfl, rfl⟩, ⟨by rw [au_s, au_i, if_neg (by omega)], by rw [au_s, au_i, if_neg (by omega)], by rw [au_s, au_i, if_neg (by omega)], by rw [au_s, au_i, if_neg (by omega)]⟩, fun _ _ _ _ => rfl, h.2.2.2.2⟩
theorem Fr_a {I J : Nat → Nat → Int} {a : Nat} {g : Nat → Int} (h : Fr I J) (ha : 311 < a) : Fr I (au J a g) := Fr_t h ⟨fun x _ _ => au_n _ _ (by omega), ⟨au_n _ _ (by omega), au_n _ _ (by omega), by rw [au_n _ _ (show 309 ≠ a by omega), au_n _ _ (show 311 ≠ a by omega)]⟩, ⟨by rw [au_n _ _ (by omega)], by rw [au_n _ _ (by omega)], by rw [au_n _ _ (by omega)], by rw [au_n _ _ (by omega)]⟩, fun r k _ _ => by unfold gro; rw [au_n _ _ (by omega)], fun j => by rw [au_n _ _ (by omega)]; exact h.2.2.2.2 j⟩
theorem Fr_ra {I J : Nat → Nat → Int} {g : Nat → Int} {n : Nat} (h : Fr I J) (hg : resd g) : Fr I (raI J g n) := by
  unfold raI
  refine Fr_s (Fr_s (Fr_s h (by omega) hg) (by omega) (powR_b n)) (by omega) ?_
  split
  · exact fun k _ => h.2.2.2.2 _
  · exact powR_b n
/-- where the reader stands: fields, truths, rows -/
def RdF (I : Nat → Nat → Int) (w : Int) (p e : Nat) (la mm fu : Int) (mi hp : Nat → Int) : Prop := I 301 18 = (p : Nat) ∧ I 301 20 = (e : Nat) ∧ I 301 21 = la ∧ I 301 22 = mm ∧ I 301 23 = w ∧ I 301 24 = fu ∧ (∀ k, k ≤ 8 → I 315 k = mi k) ∧ (∀ k, k ≤ 8 → I 316 k = hp k)
def RdB (w : Int) (e : Nat) (la mm fu : Int) (mi hp : Nat → Int) : Prop := e ≤ 8 ∧ (w = 0 ∨ w = 1) ∧ (la = 0 ∨ la = 1) ∧ (mm = 0 ∨ mm = 1) ∧ (fu = 0 ∨ fu = 1) ∧ (∀ k, mi k = 0 ∨ mi k = 1) ∧ (∀ k, hp k = 0 ∨ hp k = 1)
def RdW (I : Nat → Nat → Int) (w fu : Int) (e : Nat) (hp : Nat → Int) (su pr : Nat → Nat → Int) : Prop := w = 1 → fu = 0 → ∀ k, k ≤ e → (∀ v, v < 496 → gro I (28 + k) v = su k v) ∧ dgr (su k) ≤ 12 ∧ (hp k = 1 → (∀ v, v < 496 → gro I (37 + k) v = pr k v) ∧ dgr (pr k) ≤ 12)
def sgm (mi : Nat → Int) (e : Nat) : Int := if mi e = 1 then 10006 else 1
theorem sgm_b (mi : Nat → Int) (e : Nat) : 0 ≤ sgm mi e ∧ sgm mi e < 10007 := by unfold sgm; split <;> omega
theorem mixF_d {a b : Int} {f g : Nat → Int} (hf : dgr f ≤ 12) (hg : dgr g ≤ 12) : dgr (mixF a f b g) ≤ 12 := dgr_le (by omega) (fun w hw q => by
  unfold mixF
  rw [dgr_z hw (f := f) (by omega), dgr_z hw (f := g) (by omega), Int.mul_zero, Int.mul_zero]
  rfl)
theorem mixF_c {a b : Int} {f g f' g' : Nat → Int} (hf : ∀ v, v < 496 → f v = f' v) (hg : ∀ v, v < 496 → g v = g' v) : ∀ v, v < 496 → mixF a f b g v = mixF a f' b g' v := fun v hv => by
  unfold mixF
  rw [hf v hv, hg v hv]
theorem hp_au {I : Nat → Nat → Int} {hp : Nat → Int} {e : Nat} {v : Int} (h : ∀ k, k ≤ 8 → I 316 k = hp k) : ∀ k, k ≤ 8 → au (I 316) e v k = au hp e v k := fun k hk => by
  rw [au_i, au_i, h k hk]
theorem b_au {hp : Nat → Int} {e : Nat} {v : Int} (h : ∀ k, hp k = 0 ∨ hp k = 1) (hv : v = 0 ∨ v = 1) : ∀ k, au hp e v k = 0 ∨ au hp e v k = 1 := fun k => by
  rw [au_i]
  split
  · exact hv
  · exact h k
set_option maxRecDepth 10000 in
theorem s_closes {d L : Nat} {I : Nat → Nat → Int} {R : Nat → Nat → Option Nat} {u : Int64} (hF : FixR R) {w : Int} {p e : Nat} {la mm fu : Int} {mi hp : Nat → Int} {su pr : Nat → Nat → Int} (hR : Res I) (hT : Tabs I) (h1 : RdF I w p e la mm fu mi hp) (h2 : RdB w e la mm fu mi hp) (h3 : RdW I w fu e hp su pr) (he : hp e = 1) : ∃ J, am_run am_tb (d + 3) 211 [vR 301] (LH L I R u) = some ([], LH L J R u) ∧ Fr I J ∧ RdF J w p e la mm fu mi (au hp e 0) ∧ RdB w e la mm fu mi (au hp e 0) ∧ RdW J w fu e (au hp e 0) (au su e (mixF 1 (su e) (sgm mi e) (pr e))) pr := by
  have he8 := h2.1
  have hB : RdB w e la mm fu mi (au hp e 0) := ⟨h2.1, h2.2.1, h2.2.2.1, h2.2.2.2.1, h2.2.2.2.2.1, h2.2.2.2.2.2.1, b_au h2.2.2.2.2.2.2 (Or.inl rfl)⟩
  by_cases cw : w = 1
  · by_cases cf : fu = 0
    · have hk := h3 cw cf
      have hmx := s_mixes (d := d) (L := L) (u := u) (I := I) hF (t := 28 + e) (w := 37 + e) (to := 25) (a := 1) (b := sgm mi e) hR (by omega) (sgm_b mi e) (by omega) (by omega) (by omega) (by omega) (by omega)
      have hcp := s_copies (d := d) (L := L) (u := u) (I := sro I 25 (mixF 1 (gro I (28 + e)) (sgm mi e) (gro I (37 + e)))) hF (fr := 25) (to := 28 + e) (by omega) (by omega)
      rw [sro_c (f := gro (sro I 25 (mixF 1 (gro I (28 + e)) (sgm mi e) (gro I (37 + e)))) 25) (fun k hk => gro_s hk)] at hcp
      have hFr : Fr I (sro (sro I 25 (mixF 1 (gro I (28 + e)) (sgm mi e) (gro I (37 + e)))) (28 + e) (mixF 1 (gro I (28 + e)) (sgm mi e) (gro I (37 + e)))) := Fr_s (Fr_s (Fr_r hR) (by omega) mixF_b) (by omega) mixF_b
      refine ⟨au (sro (sro I 25 (mixF 1 (gro I (28 + e)) (sgm mi e) (gro I (37 + e)))) (28 + e) (mixF 1 (gro I (28 + e)) (sgm mi e) (gro I (37 + e)))) 316 (au (I 316) e 0), ?_, Fr_a hFr (by omega), ⟨h1.1, h1.2.1, h1.2.2.1, h1.2.2.2.1, h1.2.2.2.2.1, h1.2.2.2.2.2.1, h1.2.2.2.2.2.2.1, hp_au h1.2.2.2.2.2.2.2⟩, hB, fun _ _ k hke => ?_⟩
      · have hmi := h2.2.2.2.2.2.1 e
        have hsg : sgm mi e = if mi e = 1 then 10006 else 1 := rfl
        refine run_of tb_X12_closes (Nat.le_of_ble_eq_true rfl) ?_
        show ∃ ls', am_ev (am_run am_tb (d + 2)) tX12_closes ([vR 301], [], LH L I R u) = some (1, ls', [], LH L (au (sro (sro I 25 (mixF 1 (gro I (28 + e)) (sgm mi e) (gro I (37 + e)))) (28 + e) (mixF 1 (gro I (28 + e)) (sgm mi e) (gro I (37 + e)))) 316 (au (I 316) e 0)) R u)
        generalize mixF 1 (gro I (28 + e)) (sgm mi e) (gro I (37 + e)) = M at *
        by_cases c : mi e = 1
        · rw [if_pos c] at hsg
          rw [hsg] at hmx
          apply Exists.intro
          unfold tX12_closes
          apply t_Q
          · apply t_S
            refine x_aload_n rfl ?_
            refine x_giv tg_301 rfl (show _ = w from h1.2.2.2.2.1) ?_
            exact rfl
          apply t_Q
          · apply t_Ks
            · apply t_Q
              · apply t_B
                · exact rfl
                exact t_if_eq_f (by omega)
              apply t_Q
              · apply t_B
                · refine x_aload_n rfl ?_
                  refine x_giv tg_301 rfl (show _ = fu from h1.2.2.2.2.2.1) ?_
                  exact rfl
                exact t_if_ne_f (by omega)
              apply t_Q
              · apply t_S
                refine x_aload_n rfl ?_
                refine x_bipush ?_
                refine x_aload_n rfl ?_
                refine x_giv tg_301 rfl (show _ = ((e : Nat) : Int) from h1.2.1) ?_
                refine x_iadd ?_
                rw [show (28 : Int) + ((e : Nat) : Int) = ((28 + e : Nat) : Int) by omega]
                refine x_iconst ?_
                refine x_bipush ?_
                refine x_aload_n rfl ?_
                refine x_giv tg_301 rfl (show _ = ((e : Nat) : Int) from h1.2.1) ?_
                refine x_iadd ?_
                rw [show (37 : Int) + ((e : Nat) : Int) = ((37 + e : Nat) : Int) by omega]
                refine x_aload_n rfl ?_
                refine x_gr tg_301 rfl (fx_301_25 hF) ?_
                refine x_aload_n rfl ?_
                refine x_giv tg_301 rfl (show _ = ((e : Nat) : Int) from h1.2.1) ?_
                refine x_baldv tg_315 (ln_315 L) (by omega) (show I 315 (Int.toNat ((e : Nat) : Int)) = mi e from (congrArg (I 315) (Int.toNat_natCast e)).trans (h1.2.2.2.2.2.2.1 e h2.1)) ?_
                exact rfl
              apply t_Q
              · apply t_K
                apply t_Qs
                apply t_Ks
                · apply t_Q
                  · apply t_B
                    · exact rfl
                    exact t_if_eq_f (by omega)
                  apply t_B
                  · refine x_sipush ?_
                    exact rfl
                  exact t_goto
                · decide
              apply t_S
              refine x_bipush ?_
              refine x_V6v tg_301 (Nat.le_of_ble_eq_true rfl) (hmx) ?_
              refine x_aload_n rfl ?_
              refine x_bipush ?_
              refine x_bipush ?_
              refine x_aload_n rfl ?_
              refine x_giv tg_301 rfl (show _ = ((e : Nat) : Int) from h1.2.1) ?_
              refine x_iadd ?_
              rw [show (28 : Int) + ((e : Nat) : Int) = ((28 + e : Nat) : Int) by omega]
              refine x_V3v tg_301 (Nat.le_of_ble_eq_true rfl) (hcp) ?_
              exact rfl
            · decide
          apply t_B
          · refine x_aload_n rfl ?_
            refine x_gr tg_301 rfl (fx_301_26 hF) ?_
            refine x_aload_n rfl ?_
            refine x_giv tg_301 rfl (show _ = ((e : Nat) : Int) from h1.2.1) ?_
            refine x_iconst ?_
            refine x_bast tg_316 (ln_316 L) (by omega) (by first | decide | omega) ?_
            exact rfl
          exact rfl
        · rw [if_neg c] at hsg
          rw [hsg] at hmx
          apply Exists.intro
          unfold tX12_closes
          apply t_Q
          · apply t_S
            refine x_aload_n rfl ?_
            refine x_giv tg_301 rfl (show _ = w from h1.2.2.2.2.1) ?_
            exact rfl
          apply t_Q
          · apply t_Ks
            · apply t_Q
              · apply t_B
                · exact rfl
                exact t_if_eq_f (by omega)
              apply t_Q
              · apply t_B
                · refine x_aload_n rfl ?_
                  refine x_giv tg_301 rfl (show _ = fu from h1.2.2.2.2.2.1) ?_
                  exact rfl
                exact t_if_ne_f (by omega)
              apply t_Q
              · apply t_S
                refine x_aload_n rfl ?_
                refine x_bipush ?_
                refine x_aload_n rfl ?_
                refine x_giv tg_301 rfl (show _ = ((e : Nat) : Int) from h1.2.1) ?_
                refine x_iadd ?_
                rw [show (28 : Int) + ((e : Nat) : Int) = ((28 + e : Nat) : Int) by omega]
                refine x_iconst ?_
                refine x_bipush ?_
                refine x_aload_n rfl ?_
                refine x_giv tg_301 rfl (show _ = ((e : Nat) : Int) from h1.2.1) ?_
                refine x_iadd ?_
                rw [show (37 : Int) + ((e : Nat) : Int) = ((37 + e : Nat) : Int) by omega]
                refine x_aload_n rfl ?_
                refine x_gr tg_301 rfl (fx_301_25 hF) ?_
                refine x_aload_n rfl ?_
                refine x_giv tg_301 rfl (show _ = ((e : Nat) : Int) from h1.2.1) ?_
                refine x_baldv tg_315 (ln_315 L) (by omega) (show I 315 (Int.toNat ((e : Nat) : Int)) = mi e from (congrArg (I 315) (Int.toNat_natCast e)).trans (h1.2.2.2.2.2.2.1 e h2.1)) ?_
                exact rfl
              apply t_Q
              · apply t_Ks
                · apply t_Q
                  · apply t_K
                    apply t_Qs
                    apply t_B
                    · exact rfl
                    exact t_if_eq_t (by omega)
                  apply t_S
                  refine x_iconst ?_
                  exact rfl
                · decide
              apply t_S
              refine x_bipush ?_
              refine x_V6v tg_301 (Nat.le_of_ble_eq_true rfl) (hmx) ?_
              refine x_aload_n rfl ?_
              refine x_bipush ?_
              refine x_bipush ?_
              refine x_aload_n rfl ?_
              refine x_giv tg_301 rfl (show _ = ((e : Nat) : Int) from h1.2.1) ?_
              refine x_iadd ?_
              rw [show (28 : Int) + ((e : Nat) : Int) = ((28 + e : Nat) : Int) by omega]
              refine x_V3v tg_301 (Nat.le_of_ble_eq_true rfl) (hcp) ?_
              exact rfl
            · decide
          apply t_B
          · refine x_aload_n rfl ?_
            refine x_gr tg_301 rfl (fx_301_26 hF) ?_
            refine x_aload_n rfl ?_
            refine x_giv tg_301 rfl (show _ = ((e : Nat) : Int) from h1.2.1) ?_
            refine x_iconst ?_
            refine x_bast tg_316 (ln_316 L) (by omega) (by first | decide | omega) ?_
            exact rfl
          exact rfl
      · have a := hk k hke
        have ae := (hk e (Nat.le_refl _)).2.2 he
        have ae2 := hk e (Nat.le_refl _)
        show (∀ v, v < 496 → gro (sro (sro I 25 (mixF 1 (gro I (28 + e)) (sgm mi e) (gro I (37 + e)))) (28 + e) (mixF 1 (gro I (28 + e)) (sgm mi e) (gro I (37 + e)))) (28 + k) v = (au su e (mixF 1 (su e) (sgm mi e) (pr e))) k v) ∧ dgr ((au su e (mixF 1 (su e) (sgm mi e) (pr e))) k) ≤ 12 ∧ ((au hp e 0) k = 1 → (∀ v, v < 496 → gro (sro (sro I 25 (mixF 1 (gro I (28 + e)) (sgm mi e) (gro I (37 + e)))) (28 + e) (mixF 1 (gro I (28 + e)) (sgm mi e) (gro I (37 + e)))) (37 + k) v = pr k v) ∧ dgr (pr k) ≤ 12)
        by_cases ck : k = e
        · subst ck
          rw [au_s, au_s]
          refine ⟨fun v hv => ?_, mixF_d ae2.2.1 ae.2, fun z => absurd z (by decide)⟩
          rw [gro_s hv]
          exact mixF_c ae2.1 ae.1 v hv
        · rw [au_n _ _ ck, au_n _ _ ck]
          refine ⟨fun v hv => ?_, a.2.1, fun z => ⟨fun v hv => ?_, (a.2.2 z).2⟩⟩
          · rw [gro_n hv (by omega), gro_n hv (by omega)]; exact a.1 v hv
          · rw [gro_n hv (by omega), gro_n hv (by omega)]; exact (a.2.2 z).1 v hv
    · have cf1 : fu = 1 := by have := h2.2.2.2.2.1; omega
      refine ⟨au I 316 (au (I 316) e 0), ?_, Fr_a (Fr_r hR) (by omega), ⟨h1.1, h1.2.1, h1.2.2.1, h1.2.2.2.1, h1.2.2.2.2.1, h1.2.2.2.2.2.1, h1.2.2.2.2.2.2.1, hp_au h1.2.2.2.2.2.2.2⟩, hB, fun _ z => absurd z cf⟩
      refine run_of tb_X12_closes (Nat.le_of_ble_eq_true rfl) ?_
      show ∃ ls', am_ev (am_run am_tb (d + 2)) tX12_closes ([vR 301], [], LH L I R u) = some (1, ls', [], LH L (au I 316 (au (I 316) e 0)) R u)
      apply Exists.intro
      unfold tX12_closes
      apply t_Q
      · apply t_S
        refine x_aload_n rfl ?_
        refine x_giv tg_301 rfl (show _ = w from h1.2.2.2.2.1) ?_
        exact rfl
      apply t_Q
      · apply t_K
        apply t_Q
        · apply t_B
          · exact rfl
          exact t_if_eq_f (by omega)
        apply t_Qs
        apply t_B
        · refine x_aload_n rfl ?_
          refine x_giv tg_301 rfl (show _ = fu from h1.2.2.2.2.2.1) ?_
          exact rfl
        exact t_if_ne_t (by omega)
      apply t_B
      · refine x_aload_n rfl ?_
        refine x_gr tg_301 rfl (fx_301_26 hF) ?_
        refine x_aload_n rfl ?_
        refine x_giv tg_301 rfl (show _ = ((e : Nat) : Int) from h1.2.1) ?_
        refine x_iconst ?_
        refine x_bast tg_316 (ln_316 L) (by omega) (by first | decide | omega) ?_
        exact rfl
      exact rfl
  · have cw0 : w = 0 := by have := h2.2.1; omega
    refine ⟨au I 316 (au (I 316) e 0), ?_, Fr_a (Fr_r hR) (by omega), ⟨h1.1, h1.2.1, h1.2.2.1, h1.2.2.2.1, h1.2.2.2.2.1, h1.2.2.2.2.2.1, h1.2.2.2.2.2.2.1, hp_au h1.2.2.2.2.2.2.2⟩, hB, fun z => absurd z cw⟩
    refine run_of tb_X12_closes (Nat.le_of_ble_eq_true rfl) ?_
    show ∃ ls', am_ev (am_run am_tb (d + 2)) tX12_closes ([vR 301], [], LH L I R u) = some (1, ls', [], LH L (au I 316 (au (I 316) e 0)) R u)
    apply Exists.intro
    unfold tX12_closes
    apply t_Q
    · apply t_S
      refine x_aload_n rfl ?_
      refine x_giv tg_301 rfl (show _ = w from h1.2.2.2.2.1) ?_
      exact rfl
    apply t_Q
    · apply t_K
      apply t_Qs
      apply t_B
      · exact rfl
      exact t_if_eq_t (by omega)
    apply t_B
    · refine x_aload_n rfl ?_
      refine x_gr tg_301 rfl (fx_301_26 hF) ?_
      refine x_aload_n rfl ?_
      refine x_giv tg_301 rfl (show _ = ((e : Nat) : Int) from h1.2.1) ?_
      refine x_iconst ?_
      refine x_bast tg_316 (ln_316 L) (by omega) (by first | decide | omega) ?_
      exact rfl
    exact rfl
