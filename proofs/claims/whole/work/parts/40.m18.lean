/-! The reference: isSmall, takesBy, rowGoes, firstBelow. Written by wip/whole/gen_40.py. -/
def shf (q : Int) (k : Nat) : Int := q / 2 ^ k
theorem shf_b {q : Int} (h : 0 ≤ q ∧ q ≤ 63) (k : Nat) : 0 ≤ shf q k ∧ shf q k ≤ 63 := by
  unfold shf
  have h2 : (0 : Int) < 2 ^ k := Int.pow_pos (by decide)
  refine ⟨Int.ediv_nonneg h.1 (Int.le_of_lt h2), ?_⟩
  exact Int.le_trans (Int.ediv_le_self _ h.1) h.2
def smF (I : Nat → Nat → Int) (q : Int) : Nat → Int
  | 0 => 1
  | k + 1 => if smF I q k = 1 ∧ (shf q k % 2 = 0 ∨ dgr (fe I k) ≤ 3) then 1 else 0
theorem smF_b (I : Nat → Nat → Int) (q : Int) (k : Nat) : smF I q k = 0 ∨ smF I q k = 1 := by
  cases k with
  | zero => exact Or.inr rfl
  | succ k => show (if smF I q k = 1 ∧ (shf q k % 2 = 0 ∨ dgr (fe I k) ≤ 3) then (1 : Int) else 0) = 0 ∨ (if smF I q k = 1 ∧ (shf q k % 2 = 0 ∨ dgr (fe I k) ≤ 3) then (1 : Int) else 0) = 1; exact b01
set_option maxRecDepth 10000 in
theorem lp_isSmall {d L : Nat} {I : Nat → Nat → Int} {R : Nat → Nat → Option Nat} {u : Int64} (hF : FixR R) (hR : Res I) (hT : Tabs I) (hN : Nr I) {q : Int} (hq : 0 ≤ q ∧ q ≤ 63) : am_lp (am_ev (am_run am_tb (d + 2)) wX12_isSmall_4) 4 am_F ([vR 301, vI q, vI 1, vI 0], [], LH L I R u) = some (53, ([vR 301, vI q, vI (smF I q 6), vI 6], [], LH L (sro I 24 (fe I 5)) R u)) := by
  skip
  refine lp_up0 (fun k => ([vR 301, vI q, vI (smF I q k), vI k], [], LH L (sro I 24 (dgR I k)) R u)) (6) (s3 rfl (sro_id (fun j hj => rfl)).symm) (ltF (by first | decide | omega)) (by show ¬ 53 = 4 + 2; decide) (fun k hk => ?_) ?_
  · have hb := smF_b I q k
    have hs := shf_b hq k
    have hd := dgr_b (fe I k)
    have hfe := s_fetches (d := d) (L := L) (u := u) (I := sro I 24 (dgR I k)) hF (s := k) (row := 24) hk (by decide)
    rw [fe_s, sro_sro] at hfe
    have hdg := s_degreeIn (d := d) (L := L) (u := u) (I := sro I 24 (fe I k)) hF (Res_s hR (fe_b hN hk)) (Tabs_s hT) (row := 24) (by decide)
    rw [dgr_c (g := fe I k) (fun j hj => gro_s hj)] at hdg
    by_cases c1 : smF I q k = 0
    · unfold wX12_isSmall_4
      apply t_Q
      · apply t_B
        · refine x_iload_n rfl ?_
          refine x_bipush ?_
          exact rfl
        exact t_ic_ge_f (by omega)
      apply t_Q
      · apply t_S
        refine x_aload_n rfl ?_
        refine x_iload_n rfl ?_
        refine x_bipush ?_
        refine x_V3v tg_301 (Nat.le_of_ble_eq_true rfl) (hfe) ?_
        refine x_iload_n rfl ?_
        exact rfl
      apply t_Q
      · apply t_Ks
        · apply t_Q
          · apply t_K
            apply t_Qs
            apply t_B
            · exact rfl
            exact t_if_eq_t (by omega)
          apply t_S
          refine x_iconst ?_
          exact rfl
        · decide
      apply t_B
      · refine x_istore_n rfl ?_
        refine x_iinc rfl rfl ?_
        exact rfl
      exact t_goeq (s3 (congrArg (fun z => [vR 301, vI q, vI z, vI ((k : Int) + 1)]) (by show _ = (if smF I q k = 1 ∧ (shf q k % 2 = 0 ∨ dgr (fe I k) ≤ 3) then (1 : Int) else 0); rw [if_neg (fun z => by have := z.1; omega)])) rfl)
    by_cases c2 : shf q k % 2 = 0
    · unfold wX12_isSmall_4
      apply t_Q
      · apply t_B
        · refine x_iload_n rfl ?_
          refine x_bipush ?_
          exact rfl
        exact t_ic_ge_f (by omega)
      apply t_Q
      · apply t_S
        refine x_aload_n rfl ?_
        refine x_iload_n rfl ?_
        refine x_bipush ?_
        refine x_V3v tg_301 (Nat.le_of_ble_eq_true rfl) (hfe) ?_
        refine x_iload_n rfl ?_
        exact rfl
      apply t_Q
      · apply t_K
        apply t_Qs
        apply t_Ks
        · apply t_Q
          · apply t_B
            · exact rfl
            exact t_if_eq_f (by omega)
          apply t_Q
          · apply t_S
            refine x_iload_n rfl ?_
            refine x_iload_n rfl ?_
            refine x_ishr (by omega) ?_
            rw [show q / 2 ^ (k : Int).toNat = shf q k from rfl]
            refine x_iconst ?_
            refine x_iand (by omega) ?_
            exact rfl
          apply t_Q
          · apply t_K
            apply t_Qs
            apply t_B
            · exact rfl
            exact t_if_eq_t (by omega)
          apply t_B
          · refine x_iconst ?_
            exact rfl
          exact t_goto
        · decide
      apply t_B
      · refine x_istore_n rfl ?_
        refine x_iinc rfl rfl ?_
        exact rfl
      exact t_goeq (s3 (congrArg (fun z => [vR 301, vI q, vI z, vI ((k : Int) + 1)]) (by show _ = (if smF I q k = 1 ∧ (shf q k % 2 = 0 ∨ dgr (fe I k) ≤ 3) then (1 : Int) else 0); rw [if_pos ⟨by omega, Or.inl c2⟩])) rfl)
    by_cases c3 : dgr (fe I k) ≤ 3
    · unfold wX12_isSmall_4
      apply t_Q
      · apply t_B
        · refine x_iload_n rfl ?_
          refine x_bipush ?_
          exact rfl
        exact t_ic_ge_f (by omega)
      apply t_Q
      · apply t_S
        refine x_aload_n rfl ?_
        refine x_iload_n rfl ?_
        refine x_bipush ?_
        refine x_V3v tg_301 (Nat.le_of_ble_eq_true rfl) (hfe) ?_
        refine x_iload_n rfl ?_
        exact rfl
      apply t_Q
      · apply t_K
        apply t_Qs
        apply t_Ks
        · apply t_Q
          · apply t_B
            · exact rfl
            exact t_if_eq_f (by omega)
          apply t_Q
          · apply t_S
            refine x_iload_n rfl ?_
            refine x_iload_n rfl ?_
            refine x_ishr (by omega) ?_
            rw [show q / 2 ^ (k : Int).toNat = shf q k from rfl]
            refine x_iconst ?_
            refine x_iand (by omega) ?_
            exact rfl
          apply t_Q
          · apply t_Ks
            · apply t_Q
              · apply t_B
                · exact rfl
                exact t_if_eq_f (by omega)
              apply t_B
              · refine x_aload_n rfl ?_
                refine x_bipush ?_
                refine x_V2i tg_301 (Nat.le_of_ble_eq_true rfl) (hdg) ?_
                refine x_iconst ?_
                exact rfl
              exact t_ic_gt_f (by omega)
            · decide
          apply t_B
          · refine x_iconst ?_
            exact rfl
          exact t_goto
        · decide
      apply t_B
      · refine x_istore_n rfl ?_
        refine x_iinc rfl rfl ?_
        exact rfl
      exact t_goeq (s3 (congrArg (fun z => [vR 301, vI q, vI z, vI ((k : Int) + 1)]) (by show _ = (if smF I q k = 1 ∧ (shf q k % 2 = 0 ∨ dgr (fe I k) ≤ 3) then (1 : Int) else 0); rw [if_pos ⟨by omega, Or.inr c3⟩])) rfl)
    unfold wX12_isSmall_4
    apply t_Q
    · apply t_B
      · refine x_iload_n rfl ?_
        refine x_bipush ?_
        exact rfl
      exact t_ic_ge_f (by omega)
    apply t_Q
    · apply t_S
      refine x_aload_n rfl ?_
      refine x_iload_n rfl ?_
      refine x_bipush ?_
      refine x_V3v tg_301 (Nat.le_of_ble_eq_true rfl) (hfe) ?_
      refine x_iload_n rfl ?_
      exact rfl
    apply t_Q
    · apply t_Ks
      · apply t_Q
        · apply t_K
          apply t_Q
          · apply t_B
            · exact rfl
            exact t_if_eq_f (by omega)
          apply t_Q
          · apply t_S
            refine x_iload_n rfl ?_
            refine x_iload_n rfl ?_
            refine x_ishr (by omega) ?_
            rw [show q / 2 ^ (k : Int).toNat = shf q k from rfl]
            refine x_iconst ?_
            refine x_iand (by omega) ?_
            exact rfl
          apply t_Qs
          apply t_Ks
          · apply t_Q
            · apply t_B
              · exact rfl
              exact t_if_eq_f (by omega)
            apply t_B
            · refine x_aload_n rfl ?_
              refine x_bipush ?_
              refine x_V2i tg_301 (Nat.le_of_ble_eq_true rfl) (hdg) ?_
              refine x_iconst ?_
              exact rfl
            exact t_ic_gt_t (by omega)
          · decide
        apply t_S
        refine x_iconst ?_
        exact rfl
      · decide
    apply t_B
    · refine x_istore_n rfl ?_
      refine x_iinc rfl rfl ?_
      exact rfl
    exact t_goeq (s3 (congrArg (fun z => [vR 301, vI q, vI z, vI ((k : Int) + 1)]) (by show _ = (if smF I q k = 1 ∧ (shf q k % 2 = 0 ∨ dgr (fe I k) ≤ 3) then (1 : Int) else 0); rw [if_neg (fun z => by have := z.2; omega)])) rfl)
  · unfold wX12_isSmall_4
    apply t_Qs
    apply t_B
    · refine x_iload_n rfl ?_
      refine x_bipush ?_
      exact rfl
    exact t_ic_ge_t (by omega)
set_option maxRecDepth 10000 in
theorem s_isSmall {d L : Nat} {I : Nat → Nat → Int} {R : Nat → Nat → Option Nat} {u : Int64} (hF : FixR R) (hR : Res I) (hT : Tabs I) (hN : Nr I) {q : Int} (hq : 0 ≤ q ∧ q ≤ 63) : am_run am_tb (d + 3) 200 [vR 301, vI q] (LH L I R u) = some ([vI (smF I q 6)], LH L (sro I 24 (fe I 5)) R u) := by
  refine run_of tb_X12_isSmall (Nat.le_of_ble_eq_true rfl) ?_
  show ∃ ls', am_ev (am_run am_tb (d + 2)) tX12_isSmall ([vR 301, vI q, vU, vU], [], (LH L I R u)) = some (1, ls', [vI (smF I q 6)], LH L (sro I 24 (fe I 5)) R u)
  apply Exists.intro
  unfold tX12_isSmall
  apply t_Q
  · apply t_S
    refine x_iconst ?_
    refine x_istore_n rfl ?_
    refine x_iconst ?_
    refine x_istore_n rfl ?_
    exact rfl
  apply t_Q
  · apply t_K
    apply t_W
    exact lp_isSmall (d := d) hF hR hT hN hq
  apply t_B
  · refine x_iload_n rfl ?_
    exact rfl
  exact t_ireq (Or.inr (smF_b _ _ _)) rfl rfl
def tkN (b : Int) (k : Nat) : Nat := if 0 ≤ b ∧ b < k then k - 1 else k
def tkE (b : Int) (j : Nat) : Int := if 0 ≤ b ∧ b ≤ j then (j : Int) + 1 else j
def tkI (I : Nat → Nat → Int) (b : Int) (k : Nat) : Nat → Nat → Int := au (au I 301 (au (I 301) 13 (tkN b k : Nat))) 312 (fun j => if j < tkN b k then tkE b j else I 312 j)
set_option maxRecDepth 10000 in
theorem lp_takesBy {d L : Nat} {I : Nat → Nat → Int} {R : Nat → Nat → Option Nat} {u : Int64} (hF : FixR R) {b : Int} {q : Nat} (hb : inR b) (hq : I 301 16 = q) (hq2 : q ≤ 24) : am_lp (am_ev (am_run am_tb (d + 1)) wX12_takesBy_7) 7 am_F ([vR 301, vI b, vI 0], [], LH L (au I 301 (au (I 301) 13 0)) R u) = some (48, ([vR 301, vI b, vI q], [], LH L (tkI I b q) R u)) := by
  skip
  refine lp_up0 (fun k => ([vR 301, vI b, vI k], [], LH L (tkI I b k) R u)) (q) (s3 rfl (by
    unfold tkI
    have e0 : tkN b 0 = 0 := by unfold tkN; rw [if_neg (by omega)]
    rw [e0]
    exact au_id.symm.trans (au_c (by funext j; rw [if_neg (by omega)]; rfl)))) (ltF (by first | decide | omega)) (by show ¬ 48 = 7 + 2; decide) (fun k hk => ?_) ?_
  · by_cases c : b = k
    · have e : tkN b (k + 1) = tkN b k := by unfold tkN; rw [if_pos (by omega), if_neg (by omega)]; omega
      unfold wX12_takesBy_7
      apply t_Q
      · apply t_B
        · refine x_iload_n rfl ?_
          refine x_aload_n rfl ?_
          refine x_giv tg_301 rfl (show _ = (q : Int) from hq) ?_
          exact rfl
        exact t_ic_ge_f (by omega)
      apply t_Q
      · apply t_S
        refine x_iload_n rfl ?_
        refine x_iload_n rfl ?_
        exact rfl
      apply t_Q
      · apply t_K
        apply t_Qs
        apply t_B
        · exact rfl
        exact t_ic_eq_t (by omega)
      apply t_B
      · refine x_iinc rfl rfl ?_
        exact rfl
      exact t_goeq (s3 rfl (by unfold tkI; rw [e]))
    have hle : tkN b k ≤ k := by unfold tkN; split <;> omega
    have e : tkN b (k + 1) = tkN b k + 1 := by
      unfold tkN
      by_cases c2 : 0 ≤ b ∧ b < (k : Int)
      · rw [if_pos c2, if_pos (by omega)]; omega
      · rw [if_neg c2, if_neg (by omega)]
    have e2 : tkE b (tkN b k) = k := by
      unfold tkE tkN
      by_cases c2 : 0 ≤ b ∧ b < (k : Int)
      · rw [if_pos c2, if_pos (by omega)]; omega
      · rw [if_neg c2, if_neg (by omega)]
    unfold wX12_takesBy_7
    apply t_Q
    · apply t_B
      · refine x_iload_n rfl ?_
        refine x_aload_n rfl ?_
        refine x_giv tg_301 rfl (show _ = (q : Int) from hq) ?_
        exact rfl
      exact t_ic_ge_f (by omega)
    apply t_Q
    · apply t_S
      refine x_iload_n rfl ?_
      refine x_iload_n rfl ?_
      exact rfl
    apply t_Q
    · apply t_Ks
      · apply t_Q
        · apply t_B
          · exact rfl
          exact t_ic_eq_f (by omega)
        apply t_S
        refine x_aload_n rfl ?_
        refine x_gr tg_301 rfl (fx_301_12 hF) ?_
        refine x_aload_n rfl ?_
        refine x_giv tg_301 rfl (show _ = ((tkN b k : Nat) : Int) from rfl) ?_
        refine x_iload_n rfl ?_
        refine x_iast tg_312 (ln_312 L) (by omega) ?_
        refine x_aload_n rfl ?_
        refine x_dup rfl ?_
        refine x_giv tg_301 rfl (show _ = ((tkN b k : Nat) : Int) from rfl) ?_
        refine x_iconst ?_
        refine x_iadd ?_
        refine x_pi tg_301 rfl rfl ?_
        exact rfl
      · decide
    apply t_B
    · refine x_iinc rfl rfl ?_
      exact rfl
    exact t_goeq (s3 rfl (by
          unfold tkI
          rw [e]
          generalize tkN b k = N at e2 ⊢
          funext a j
          simp only [au2, au_i, ↓reduceIte, Nat.reduceEqDiff]
          by_cases a1 : a = 301
          · subst a1
            simp only [↓reduceIte, Nat.reduceEqDiff]
            (repeat' split) <;> first | rfl | omega
          · by_cases a2 : a = 312
            · subst a2
              simp only [↓reduceIte, Nat.reduceEqDiff]
              by_cases j1 : j = N
              · subst j1
                simp only [Int.toNat_natCast, ↓reduceIte]
                rw [if_pos (by omega)]
                exact e2.symm
              · simp only [Int.toNat_natCast, if_neg j1]
                (repeat' split) <;> first | rfl | omega
            · simp only [if_neg a1, if_neg a2]))
  · unfold wX12_takesBy_7
    apply t_Qs
    apply t_B
    · refine x_iload_n rfl ?_
      refine x_aload_n rfl ?_
      refine x_giv tg_301 rfl (show _ = (q : Int) from hq) ?_
      exact rfl
    exact t_ic_ge_t (by omega)
set_option maxRecDepth 10000 in
theorem s_takesBy {d L : Nat} {I : Nat → Nat → Int} {R : Nat → Nat → Option Nat} {u : Int64} (hF : FixR R) {b : Int} {q : Nat} (hb : inR b) (hq : I 301 16 = q) (hq2 : q ≤ 24) : am_run am_tb (d + 2) 192 [vR 301, vI b] (LH L I R u) = some ([], LH L (tkI I b q) R u) := by
  refine run_of tb_X12_takesBy (Nat.le_of_ble_eq_true rfl) ?_
  show ∃ ls', am_ev (am_run am_tb (d + 1)) tX12_takesBy ([vR 301, vI b, vU], [], (LH L I R u)) = some (1, ls', [], LH L (tkI I b q) R u)
  apply Exists.intro
  unfold tX12_takesBy
  apply t_Q
  · apply t_S
    refine x_aload_n rfl ?_
    refine x_iconst ?_
    refine x_pi tg_301 rfl rfl ?_
    refine x_iconst ?_
    refine x_istore_n rfl ?_
    exact rfl
  apply t_Q
  · apply t_K
    apply t_W
    exact lp_takesBy (d := d) hF hb hq hq2
  apply t_B
  · exact rfl
  exact rfl
