/-! The reference: laysBasis. Written by wip/whole/gen_63.py. -/
def inF (I : Nat → Nat → Int) (q : Int) : Nat → Nat × (Nat → Nat → Int)
  | 0 => (0, fun _ _ => 0)
  | k + 1 => if shf q k % 2 = 1 ∧ ¬ dgr (fe I k) < 0 then ((inF I q k).1 + 1, au (inF I q k).2 (inF I q k).1 (fe I k)) else inF I q k
theorem inF_c {I J : Nat → Nat → Int} {q : Int} (h : ∀ s, fe J s = fe I s) (k : Nat) : inF J q k = inF I q k := by
  induction k with
  | zero => rfl
  | succ k ih =>
    show (if shf q k % 2 = 1 ∧ ¬ dgr (fe J k) < 0 then ((inF J q k).1 + 1, au (inF J q k).2 (inF J q k).1 (fe J k)) else inF J q k) = (if shf q k % 2 = 1 ∧ ¬ dgr (fe I k) < 0 then ((inF I q k).1 + 1, au (inF I q k).2 (inF I q k).1 (fe I k)) else inF I q k)
    rw [ih, h]
theorem fe_a {I : Nat → Nat → Int} {s : Nat} (h : Nr I) (hs : s < 6) : resa (fe I s) := by
  intro k
  unfold fe
  split
  · exact h.1 _ (by omega)
  · exact ⟨Int.le_refl 0, by decide⟩
theorem inF_ok {I : Nat → Nat → Int} {q o : Int} (hN : Nr I) {k : Nat} (hk : k ≤ 6) : (inF I q k).1 ≤ k ∧ Gd o (inF I q k).1 (inF I q k).2 := by
  induction k with
  | zero => exact ⟨Nat.le_refl _, by show 0 ≤ 23; decide, fun j hj => absurd hj (Nat.not_lt_zero _)⟩
  | succ k ih =>
    have i := ih (by omega)
    by_cases c : shf q k % 2 = 1 ∧ ¬ dgr (fe I k) < 0
    · have e : inF I q (k + 1) = ((inF I q k).1 + 1, au (inF I q k).2 (inF I q k).1 (fe I k)) := if_pos c
      rw [e]
      refine ⟨by show (inF I q k).1 + 1 ≤ k + 1; omega, by show (inF I q k).1 + 1 ≤ 23; omega, fun j hj => ?_⟩
      show resa (if j = (inF I q k).1 then fe I k else (inF I q k).2 j) ∧ ¬ led o (if j = (inF I q k).1 then fe I k else (inF I q k).2 j) < 0
      have hj' : j < (inF I q k).1 + 1 := hj
      by_cases ej : j = (inF I q k).1
      · rw [if_pos ej]
        exact ⟨fe_a hN (by omega), fun z => c.2 (dgr_neg.mpr z)⟩
      · rw [if_neg ej]
        exact i.2.2 j (by omega)
    · have e : inF I q (k + 1) = inF I q k := if_neg c
      rw [e]
      exact ⟨by omega, i.2⟩
def TdOk (o : Int) (n : Nat) (G : Nat → Nat → Int) (N : Nat) : Prop := N ≤ 1000000 ∧ (∀ k, k < N → (tdI o n G k).2.2 = 1) ∧ (tdI o n G N).2.2 = 0
noncomputable def omG (o : Int) (n : Nat) (G : Nat → Nat → Int) (z : Nat) : Nat → Nat → Int := au (srO 1 o G (n - 1)) n (mon o (spG o n (srO 1 o G (n - 1)) z))
/-- a run of laysBasis -/
def LbRun (o : Int) (n : Nat) (G : Nat → Nat → Int) (M : Nat) (sn : Nat → Nat) (sG : Nat → Nat → Nat → Int) : Prop :=
  M ≤ 1000 ∧ (∃ N, TdOk o n G N ∧ sn 0 = (tdI o n G N).1 ∧ sG 0 = (tdI o n G N).2.1) ∧
  (∀ k, k < M → Xs o (sn k) (srO 1 o (sG k) (sn k - 1)) ∧ sn k ≤ 22 ∧ ∃ z N, z < sn k - 1 ∧ (∀ j, j < z → led o (spG o (sn k) (srO 1 o (sG k) (sn k - 1)) j) < 0) ∧ ¬ led o (spG o (sn k) (srO 1 o (sG k) (sn k - 1)) z) < 0 ∧ TdOk o (sn k + 1) (omG o (sn k) (sG k) z) N ∧ sn (k + 1) = (tdI o (sn k + 1) (omG o (sn k) (sG k) z) N).1 ∧ sG (k + 1) = (tdI o (sn k + 1) (omG o (sn k) (sG k) z) N).2.1) ∧
  Xs o (sn M) (srO 1 o (sG M) (sn M - 1)) ∧ (∀ j, j < sn M - 1 → led o (spG o (sn M) (srO 1 o (sG M) (sn M - 1)) j) < 0)
theorem crG_b {o : Int} {G : Nat → Nat → Int} {k : Nat} : resd (crG o G k) := crF_b
theorem omG_Gd {o : Int} {n z : Nat} {G : Nat → Nat → Int} (hG : Gd o n G) (h22 : n ≤ 22) (hz : ¬ led o (spG o n (srO 1 o G (n - 1)) z) < 0) : Gd o (n + 1) (omG o n G z) := by
  have hS : Gd o n (srO 1 o G (n - 1)) := srO_Gd hG (Nat.le_refl _)
  refine ⟨by omega, fun j hj => ?_⟩
  have ha : resa (spG o n (srO 1 o G (n - 1)) z) := nfa_a hS.2 crG_b
  show resa (if j = n then _ else _) ∧ ¬ led o (if j = n then _ else _) < 0
  by_cases ej : j = n
  · rw [if_pos ej, mon_led ha hz]
    exact ⟨mon_a _ _, hz⟩
  · rw [if_neg ej]
    exact hS.2 j (by omega)
theorem Lb_Gd {o : Int} {n : Nat} {G : Nat → Nat → Int} {M : Nat} {sn : Nat → Nat} {sG : Nat → Nat → Nat → Int} (h : LbRun o n G M sn sG) (hG : Gd o n G) {k : Nat} (hk : k ≤ M) : Gd o (sn k) (sG k) := by
  induction k with
  | zero =>
    obtain ⟨N, _, e1, e2⟩ := h.2.1
    rw [e1, e2]
    exact (tdI_ok hG N).1
  | succ k ih =>
    obtain ⟨_, h22, z, N, hz, _, hz2, _, e1, e2⟩ := h.2.2.1 k (by omega)
    rw [e1, e2]
    exact (tdI_ok (omG_Gd (ih (by omega)) h22 hz2) N).1
set_option maxRecDepth 10000 in
theorem lp_lyb1 {d L : Nat} {I : Nat → Nat → Int} {R : Nat → Nat → Option Nat} {u : Int64} (hF : FixR R) (hR : Res I) (hT : Tabs I) (hN : Nr I) {q : Int} (hq : 0 ≤ q ∧ q ≤ 63) {I0 : Nat → Nat → Int} (hF0 : Fw I I0) (h16 : I0 301 16 = 0) : ∃ J, am_lp (am_ev (am_run am_tb (d + 2)) wX12_laysBasis_16) 16 am_F ([vR 301, vI q, vI 0], [], LH L I0 R u) = some (73, [vR 301, vI q, vI 6], [], LH L J R u) ∧ Fw I J ∧ Rws J (inF I q 6).1 (inF I q 6).2 := by
  have key := lp_inv (f := am_ev (am_run am_tb (d + 2)) wX12_laysBasis_16) (L := 16) (fun k x => k ≤ 6 ∧ ∃ J, x = ([vR 301, vI q, vI k], [], LH L J R u) ∧ Fw I J ∧ Rws J (inF I q k).1 (inF I q k).2) (fun r => ∃ J, r = (73, [vR 301, vI q, vI 6], [], LH L J R u) ∧ Fw I J ∧ Rws J (inF I q 6).1 (inF I q 6).2) 6 (x := ([vR 301, vI q, vI 0], [], LH L I0 R u)) ⟨Nat.zero_le _, I0, rfl, hF0, h16, fun j hj => absurd hj (Nat.not_lt_zero _)⟩ (ltF (by omega)) (fun k y hk hp => ?_) (fun y hp => ?_)
  · obtain ⟨r, e, J, er, h⟩ := key
    exact ⟨J, by rw [e, er], h⟩
  · obtain ⟨_, J, e, hFJ, hwJ⟩ := hp
    have hs := shf_b hq k
    have hok := inF_ok (q := q) (o := 0) hN (show k ≤ 6 by omega)
    have hT2 := Fw_T hFJ hT
    by_cases c : shf q k % 2 = 1
    · have hfe := s_fetches (d := d) (L := L) (u := u) (I := J) hF (s := k) (row := (inF I q k).1) (by omega) (by omega)
      rw [Fw_fe hFJ] at hfe
      have hFf := Fw_s (r := (inF I q k).1) hFJ (fe_b hN (show k < 6 by omega))
      have hdg := s_degreeIn (d := d) (L := L) (u := u) (I := sro J (inF I q k).1 (fe I k)) hF hFf.2.2.2 (Fw_T hFf hT) (row := (inF I q k).1) (by omega)
      rw [dgr_c (g := fe I k) (fun j hj => gro_s hj)] at hdg
      have hdb := dgr_b (fe I k)
      by_cases c2 : dgr (fe I k) < 0
      · have e1 : inF I q (k + 1) = inF I q k := if_neg (fun z => z.2 c2)
        refine ⟨([vR 301, vI q, vI ((k + 1 : Nat) : Int)], [], LH L (au (sro J (inF I q k).1 (fe I k)) 301 (au (J 301) 16 (((inF I q k).1 : Int) + 0))) R u), ?_, ⟨by omega, _, rfl, Fw_t hFf ⟨fun a p r => au_n _ _ r, ⟨rfl, rfl, rfl⟩, ⟨rfl, rfl⟩, hFf.2.2.2⟩, ?_⟩⟩
        · rw [e]
          unfold wX12_laysBasis_16
          apply t_Q
          · apply t_B
            · refine x_iload_n rfl ?_
              refine x_bipush ?_
              exact rfl
            exact t_ic_ge_f (by omega)
          apply t_Q
          · apply t_S
            refine x_iload_n rfl ?_
            refine x_iload_n rfl ?_
            refine x_ishr (by omega) ?_
            rw [show q / 2 ^ (k : Int).toNat = shf q k from rfl]
            refine x_iconst ?_
            refine x_iand (by omega) ?_
            refine x_iconst ?_
            exact rfl
          apply t_Q
          · apply t_Ks
            · apply t_Q
              · apply t_B
                · exact rfl
                exact t_ic_ne_f (by omega)
              apply t_Q
              · apply t_S
                refine x_aload_n rfl ?_
                refine x_iload_n rfl ?_
                refine x_aload_n rfl ?_
                refine x_giv tg_301 rfl (show _ = (((inF I q k).1 : Nat) : Int) from hwJ.1) ?_
                refine x_V3v tg_301 (Nat.le_of_ble_eq_true rfl) (hfe) ?_
                refine x_aload_n rfl ?_
                refine x_dup rfl ?_
                refine x_giv tg_301 rfl (show _ = (((inF I q k).1 : Nat) : Int) from hwJ.1) ?_
                refine x_aload_n rfl ?_
                refine x_aload_n rfl ?_
                refine x_giv tg_301 rfl (show _ = (((inF I q k).1 : Nat) : Int) from hwJ.1) ?_
                refine x_V2i tg_301 (Nat.le_of_ble_eq_true rfl) (hdg) ?_
                exact rfl
              apply t_Q
              · apply t_K
                apply t_Qs
                apply t_Ks
                · apply t_Q
                  · apply t_B
                    · exact rfl
                    exact t_if_ge_f (by omega)
                  apply t_B
                  · refine x_iconst ?_
                    exact rfl
                  exact t_goto
                · decide
              apply t_S
              refine x_iadd ?_
              refine x_pi tg_301 rfl rfl ?_
              exact rfl
            · decide
          apply t_B
          · refine x_iinc rfl rfl ?_
            exact rfl
          exact t_goeq rfl
        · rw [e1]
          refine ⟨by show ((inF I q k).1 : Int) + 0 = _; omega, fun j hj v hv => ?_⟩
          show gro (sro J (inF I q k).1 (fe I k)) j v = _
          rw [gro_n hv (by omega)]
          exact hwJ.2 j hj v hv
      · have e1 : inF I q (k + 1) = ((inF I q k).1 + 1, au (inF I q k).2 (inF I q k).1 (fe I k)) := if_pos ⟨c, c2⟩
        refine ⟨([vR 301, vI q, vI ((k + 1 : Nat) : Int)], [], LH L (au (sro J (inF I q k).1 (fe I k)) 301 (au (J 301) 16 (((inF I q k).1 : Int) + 1))) R u), ?_, ⟨by omega, _, rfl, Fw_t hFf ⟨fun a p r => au_n _ _ r, ⟨rfl, rfl, rfl⟩, ⟨rfl, rfl⟩, hFf.2.2.2⟩, ?_⟩⟩
        · rw [e]
          unfold wX12_laysBasis_16
          apply t_Q
          · apply t_B
            · refine x_iload_n rfl ?_
              refine x_bipush ?_
              exact rfl
            exact t_ic_ge_f (by omega)
          apply t_Q
          · apply t_S
            refine x_iload_n rfl ?_
            refine x_iload_n rfl ?_
            refine x_ishr (by omega) ?_
            rw [show q / 2 ^ (k : Int).toNat = shf q k from rfl]
            refine x_iconst ?_
            refine x_iand (by omega) ?_
            refine x_iconst ?_
            exact rfl
          apply t_Q
          · apply t_Ks
            · apply t_Q
              · apply t_B
                · exact rfl
                exact t_ic_ne_f (by omega)
              apply t_Q
              · apply t_S
                refine x_aload_n rfl ?_
                refine x_iload_n rfl ?_
                refine x_aload_n rfl ?_
                refine x_giv tg_301 rfl (show _ = (((inF I q k).1 : Nat) : Int) from hwJ.1) ?_
                refine x_V3v tg_301 (Nat.le_of_ble_eq_true rfl) (hfe) ?_
                refine x_aload_n rfl ?_
                refine x_dup rfl ?_
                refine x_giv tg_301 rfl (show _ = (((inF I q k).1 : Nat) : Int) from hwJ.1) ?_
                refine x_aload_n rfl ?_
                refine x_aload_n rfl ?_
                refine x_giv tg_301 rfl (show _ = (((inF I q k).1 : Nat) : Int) from hwJ.1) ?_
                refine x_V2i tg_301 (Nat.le_of_ble_eq_true rfl) (hdg) ?_
                exact rfl
              apply t_Q
              · apply t_Ks
                · apply t_Q
                  · apply t_K
                    apply t_Qs
                    apply t_B
                    · exact rfl
                    exact t_if_ge_t (by omega)
                  apply t_S
                  refine x_iconst ?_
                  exact rfl
                · decide
              apply t_S
              refine x_iadd ?_
              refine x_pi tg_301 rfl rfl ?_
              exact rfl
            · decide
          apply t_B
          · refine x_iinc rfl rfl ?_
            exact rfl
          exact t_goeq rfl
        · rw [e1]
          refine ⟨by show ((inF I q k).1 : Int) + 1 = (((inF I q k).1 + 1 : Nat) : Int); omega, fun j hj v hv => ?_⟩
          show gro (sro J (inF I q k).1 (fe I k)) j v = (if j = (inF I q k).1 then fe I k else (inF I q k).2 j) v
          have hj' : j < (inF I q k).1 + 1 := hj
          by_cases ej : j = (inF I q k).1
          · rw [if_pos ej, ej]; exact gro_s hv
          · rw [if_neg ej, gro_n hv ej]; exact hwJ.2 j (by omega) v hv
    · have e1 : inF I q (k + 1) = inF I q k := if_neg (fun z => c z.1)
      refine ⟨([vR 301, vI q, vI ((k + 1 : Nat) : Int)], [], LH L J R u), ?_, ⟨by omega, J, rfl, hFJ, by rw [e1]; exact hwJ⟩⟩
      rw [e]
      unfold wX12_laysBasis_16
      apply t_Q
      · apply t_B
        · refine x_iload_n rfl ?_
          refine x_bipush ?_
          exact rfl
        exact t_ic_ge_f (by omega)
      apply t_Q
      · apply t_S
        refine x_iload_n rfl ?_
        refine x_iload_n rfl ?_
        refine x_ishr (by omega) ?_
        rw [show q / 2 ^ (k : Int).toNat = shf q k from rfl]
        refine x_iconst ?_
        refine x_iand (by omega) ?_
        refine x_iconst ?_
        exact rfl
      apply t_Q
      · apply t_K
        apply t_Qs
        apply t_B
        · exact rfl
        exact t_ic_ne_t (by omega)
      apply t_B
      · refine x_iinc rfl rfl ?_
        exact rfl
      exact t_goeq rfl
  · obtain ⟨_, J, e, hFJ, hwJ⟩ := hp
    refine ⟨(73, [vR 301, vI q, vI 6], [], LH L J R u), ?_, by show ¬ 73 = 16 + 2; decide, J, rfl, hFJ, hwJ⟩
    rw [e]
    unfold wX12_laysBasis_16
    apply t_Qs
    apply t_B
    · refine x_iload_n rfl ?_
      refine x_bipush ?_
      exact rfl
    exact t_ic_ge_t (by omega)
set_option maxRecDepth 10000 in
theorem lp_lyb2 {d L : Nat} {I : Nat → Nat → Int} {R : Nat → Nat → Option Nat} {u : Int64} (hF : FixR R) (hR : Res I) (hT : Tabs I) {o : Int} (ho : I 302 608 = o) (h0 : o = 0 ∨ o = 1) {n : Nat} {G : Nat → Nat → Int} (hG : Gd o n G) {M : Nat} {sn : Nat → Nat} {sG : Nat → Nat → Nat → Int} (hL : LbRun o n G M sn sG) {q : Int} {I0 : Nat → Nat → Int} (hF0 : Fw I I0) (hw0 : Rws I0 (sn 0) (sG 0)) : ∃ J, am_lp (am_ev (am_run am_tb (d + 7)) wX12_laysBasis_75) 75 am_F ([vR 301, vI q, vI 6], [], LH L I0 R u) = some (91, [vR 301, vI q, vI 6], [], LH L J R u) ∧ Fw I J ∧ Rws J (sn M) (srO 1 o (sG M) (sn M - 1)) := by
  have key := lp_inv (f := am_ev (am_run am_tb (d + 7)) wX12_laysBasis_75) (L := 75) (fun k x => k ≤ M ∧ ∃ J, x = ([vR 301, vI q, vI 6], [], LH L J R u) ∧ Fw I J ∧ Rws J (sn k) (sG k)) (fun r => ∃ J, r = (91, [vR 301, vI q, vI 6], [], LH L J R u) ∧ Fw I J ∧ Rws J (sn M) (srO 1 o (sG M) (sn M - 1))) M (x := ([vR 301, vI q, vI 6], [], LH L I0 R u)) ⟨Nat.zero_le _, I0, rfl, hF0, hw0⟩ (ltF (by have := hL.1; omega)) (fun k y hk hp => ?_) (fun y hp => ?_)
  · obtain ⟨r, e, J, er, h⟩ := key
    exact ⟨J, by rw [e, er], h⟩
  · obtain ⟨_, J, e, hFJ, hwJ⟩ := hp
    have hGk := Lb_Gd hL hG (show k ≤ M by omega)
    obtain ⟨hX, h22, z, N, hz, hz1, hz2, hTd, e1, e2⟩ := hL.2.2.1 k hk
    obtain ⟨K, hom, hFK, hwK⟩ := s_one1 (d := d) (L := L) (u := u) (I := J) hF hFJ.2.2.2 (Fw_T hFJ hT) (o := o) (by rw [hFJ.1 302 (by decide) (by decide)]; exact ho) h0 hwJ hGk hX h22 hz hz1 hz2
    have hFIK := Fw_t hFJ hFK
    obtain ⟨P, htd, hFP, hwP⟩ := s_tidies (d := d + 1) (L := L) (u := u) (I := K) hF hFK.2.2.2 (Fw_T hFIK hT) (o := o) (by rw [hFIK.1 302 (by decide) (by decide)]; exact ho) h0 hwK (omG_Gd hGk h22 hz2) (N := N) hTd.1 hTd.2.1 hTd.2.2
    refine ⟨([vR 301, vI q, vI 6], [], LH L P R u), ?_, ⟨by omega, P, rfl, Fw_t hFIK hFP, by rw [e1, e2]; exact hwP⟩⟩
    rw [e]
    unfold wX12_laysBasis_75
    apply t_Q
    · apply t_B
      · refine x_aload_n rfl ?_
        refine x_V1i tg_301 (Nat.le_of_ble_eq_true rfl) (hom) ?_
        exact rfl
      exact t_if_eq_f (by omega)
    apply t_B
    · refine x_aload_n rfl ?_
      refine x_V1v tg_301 (Nat.le_of_ble_eq_true rfl) (htd) ?_
      exact rfl
    exact t_goto
  · obtain ⟨_, J, e, hFJ, hwJ⟩ := hp
    have hGk := Lb_Gd hL hG (Nat.le_refl M)
    obtain ⟨K, hom, hFK, hwK⟩ := s_one0 (d := d) (L := L) (u := u) (I := J) hF hFJ.2.2.2 (Fw_T hFJ hT) (o := o) (by rw [hFJ.1 302 (by decide) (by decide)]; exact ho) h0 hwJ hGk hL.2.2.2.1 hL.2.2.2.2
    refine ⟨(91, [vR 301, vI q, vI 6], [], LH L K R u), ?_, by show ¬ 91 = 75 + 2; decide, K, rfl, Fw_t hFJ hFK, hwK⟩
    rw [e]
    unfold wX12_laysBasis_75
    apply t_Qs
    apply t_B
    · refine x_aload_n rfl ?_
      refine x_V1i tg_301 (Nat.le_of_ble_eq_true rfl) (hom) ?_
      exact rfl
    exact t_if_eq_t (by omega)
/-- the rows of a set lie there, or laysBasis lays them -/
def Lay (o : Int) (I : Nat → Nat → Int) (q : Int) (n : Nat) (G : Nat → Nat → Int) : Prop := (I 301 17 = q ∧ Rws I n G ∧ Gd o n G) ∨ (¬ I 301 17 = q ∧ ∃ M sn sG, LbRun o (inF I q 6).1 (inF I q 6).2 M sn sG ∧ n = sn M ∧ G = srO 0 o (srO 1 o (sG M) (sn M - 1)) (sn M - 1))
set_option maxRecDepth 10000 in
theorem s_lays {d L : Nat} {I : Nat → Nat → Int} {R : Nat → Nat → Option Nat} {u : Int64} (hF : FixR R) (hR : Res I) (hT : Tabs I) (hN : Nr I) {o : Int} (ho : I 302 608 = o) (h0 : o = 0 ∨ o = 1) {q : Int} (hq : 1 ≤ q ∧ q ≤ 63) (hl : 0 ≤ I 301 17 ∧ I 301 17 ≤ 63) {n : Nat} {G : Nat → Nat → Int} (hL : Lay o I q n G) : ∃ J, am_run am_tb (d + 8) 199 [vR 301, vI q] (LH L I R u) = some ([], LH L J R u) ∧ Fw I J ∧ Rws J n G ∧ J 301 17 = q ∧ Gd o n G := by
  cases hL with
  | inl h =>
    refine ⟨I, ?_, Fw_r hR, h.2.1, h.1, h.2.2⟩
    have h1 := h.1
    refine run_of tb_X12_laysBasis (Nat.le_of_ble_eq_true rfl) ?_
    show ∃ ls', am_ev (am_run am_tb (d + 7)) tX12_laysBasis ([vR 301, vI q, vU], [], LH L I R u) = some (1, ls', [], LH L I R u)
    apply Exists.intro
    unfold tX12_laysBasis
    apply t_Q
    · apply t_S
      refine x_aload_n rfl ?_
      refine x_gi tg_301 rfl ?_
      refine x_iload_n rfl ?_
      exact rfl
    apply t_Qs
    apply t_Ks
    · apply t_Q
      · apply t_B
        · exact rfl
        exact t_ic_ne_f (by omega)
      apply t_B
      · exact rfl
      exact rfl
    · decide
  | inr h =>
    obtain ⟨h1, M, sn, sG, hL, en, eG⟩ := h
    have hin := inF_ok (q := q) (o := o) hN (Nat.le_refl 6)
    have hF0 : Fw I (au I 301 (au (I 301) 16 0)) := ⟨fun a p r => au_n _ _ r, ⟨rfl, rfl, rfl⟩, ⟨rfl, rfl⟩, hR⟩
    obtain ⟨J, e1, hFJ, hwJ⟩ := lp_lyb1 (d := d + 5) (L := L) (u := u) (I := I) hF hR hT hN (q := q) (by omega) hF0 rfl
    obtain ⟨N, hTd, en0, eG0⟩ := hL.2.1
    obtain ⟨K, htd, hFK, hwK⟩ := s_tidies (d := d + 1) (L := L) (u := u) (I := J) hF hFJ.2.2.2 (Fw_T hFJ hT) (o := o) (by rw [hFJ.1 302 (by decide) (by decide)]; exact ho) h0 hwJ hin.2 (N := N) hTd.1 hTd.2.1 hTd.2.2
    rw [← en0, ← eG0] at hwK
    obtain ⟨P, e2, hFP, hwP⟩ := lp_lyb2 (d := d) (L := L) (u := u) (I := I) hF hR hT ho h0 hin.2 hL (q := q) (Fw_t hFJ hFK) hwK
    have hGM := srO_Gd (b := 1) (Lb_Gd hL hin.2 (Nat.le_refl M)) (Nat.le_refl _)
    obtain ⟨Q, hso, hFQ, hwQ⟩ := s_sorts (d := d + 3) (L := L) (u := u) (I := P) hF hFP.2.2.2 (Fw_T hFP hT) (b := 0) (Or.inl rfl) (by rw [hFP.1 302 (by decide) (by decide)]; exact ho) h0 hwP hGM
    have hFQ2 := Fw_t hFP hFQ
    refine ⟨au Q 301 (au (Q 301) 17 q), ?_, Fw_t hFQ2 ⟨fun a p r => au_n _ _ r, ⟨rfl, rfl, rfl⟩, ⟨rfl, rfl⟩, hFQ2.2.2.2⟩, ?_, rfl, ?_⟩
    · refine run_of tb_X12_laysBasis (Nat.le_of_ble_eq_true rfl) ?_
      show ∃ ls', am_ev (am_run am_tb (d + 7)) tX12_laysBasis ([vR 301, vI q, vU], [], LH L I R u) = some (1, ls', [], LH L (au Q 301 (au (Q 301) 17 q)) R u)
      apply Exists.intro
      unfold tX12_laysBasis
      apply t_Q
      · apply t_S
        refine x_aload_n rfl ?_
        refine x_gi tg_301 rfl ?_
        refine x_iload_n rfl ?_
        exact rfl
      apply t_Q
      · apply t_K
        apply t_Qs
        apply t_B
        · exact rfl
        exact t_ic_ne_t (by omega)
      apply t_Q
      · apply t_S
        refine x_aload_n rfl ?_
        refine x_iconst ?_
        refine x_pi tg_301 rfl rfl ?_
        refine x_iconst ?_
        refine x_istore_n rfl ?_
        exact rfl
      apply t_Q
      · apply t_K
        apply t_W
        exact e1
      apply t_Q
      · apply t_S
        refine x_aload_n rfl ?_
        refine x_V1v tg_301 (Nat.le_of_ble_eq_true rfl) (htd) ?_
        exact rfl
      apply t_Q
      · apply t_K
        apply t_W
        exact e2
      apply t_B
      · refine x_aload_n rfl ?_
        refine x_iconst ?_
        refine x_V2v tg_301 (Nat.le_of_ble_eq_true rfl) (hso) ?_
        refine x_aload_n rfl ?_
        refine x_iload_n rfl ?_
        refine x_pi tg_301 rfl rfl ?_
        exact rfl
      exact rfl
    · rw [en, eG]
      exact ⟨hwQ.1, hwQ.2⟩
    · rw [en, eG]
      exact srO_Gd hGM (Nat.le_refl _)
