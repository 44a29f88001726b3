/-! Leaves of the reference: small words. Written by wip/whole/gen_23.py. -/
section AU
variable {α : Type} {f g : Nat → α} {a b : Nat} {v w : α}
theorem au_au : au (au f a v) a w = au f a w := by
  funext j; unfold au; split <;> rfl
theorem au_id : au f a (f a) = f := by
  funext j; unfold au; split
  · rename_i h; rw [h]
  · rfl
theorem au_c (h : v = w) : au f a v = au f a w := by rw [h]
end AU
theorem LH_c {L : Nat} {I J : Nat → Nat → Int} {R : Nat → Nat → Option Nat} {u : Int64} (h : I = J) : LH L I R u = LH L J R u := by rw [h]
/-- a row that is written once more -/
theorem au_w {I : Nat → Nat → Int} {a j : Nat} {f g : Nat → Int} {v : Int} (h : au f j v = g) : au (au I a f) a (au (au I a f a) j v) = au I a g := by
  rw [au_au, au_s, h]
theorem s3 {L : Nat} {I J : Nat → Nat → Int} {R : Nat → Nat → Option Nat} {u : Int64} {ls ls' st : List am_V} (h1 : ls = ls') (h : I = J) : ((ls, st, LH L I R u) : am_S) = (ls', st, LH L J R u) := by rw [h1, h]
theorem t_goeq {i : Int} {t : Nat} {ts : List Nat} {x y : am_S} (h : x = y) : am_t (.goto i) (t :: ts) x = some (t + 2, y) := by rw [h]; rfl
theorem lp_up0 {f : am_S → Option (Nat × am_S)} {L : Nat} (S : Nat → am_S) (n : Nat) {x : am_S} {r : Nat × am_S} (h0 : x = S 0) (hn : n < am_F) (hr : ¬ r.1 = L + 2) (hs : ∀ k, k < n → f (S k) = some (L + 2, S (k + 1))) (he : f (S n) = some r) : am_lp f L am_F x = some r := by
  rw [h0]; exact lp_up S n hn hs he hr
set_option maxRecDepth 10000 in
theorem s_in {d : Nat} {h : am_H} {v lo hi : Int} (h1 : inR v) (h2 : inR lo) (h3 : inR hi) : am_run am_tb (d + 1) 131 [vI v, vI lo, vI hi] h = some ([vI (if lo ≤ v ∧ v ≤ hi then 1 else 0)], h) := by
  refine run_of tb_X12_in (Nat.le_of_ble_eq_true rfl) ?_
  show ∃ ls', am_ev (am_run am_tb (d + 0)) tX12_in ([vI v, vI lo, vI hi], [], h) = some (1, ls', [vI (if lo ≤ v ∧ v ≤ hi then 1 else 0)], h)
  by_cases c1 : v < lo
  · apply Exists.intro
    unfold tX12_in
    apply t_Q
    · apply t_S
      refine x_iload_n rfl ?_
      refine x_iload_n rfl ?_
      exact rfl
    apply t_Q
    · apply t_Ks
      · apply t_Q
        · apply t_K
          apply t_Qs
          apply t_B
          · exact rfl
          exact t_ic_lt_t (by omega)
        apply t_S
        refine x_iconst ?_
        exact rfl
      · decide
    apply t_B
    · exact rfl
    exact t_ireq (Or.inr (Or.inl rfl)) (by rw [if_neg (by omega)]) rfl
  by_cases c2 : hi < v
  · apply Exists.intro
    unfold tX12_in
    apply t_Q
    · apply t_S
      refine x_iload_n rfl ?_
      refine x_iload_n rfl ?_
      exact rfl
    apply t_Q
    · apply t_Ks
      · apply t_Q
        · apply t_K
          apply t_Q
          · apply t_B
            · exact rfl
            exact t_ic_lt_f (by omega)
          apply t_Qs
          apply t_B
          · refine x_iload_n rfl ?_
            refine x_iload_n rfl ?_
            exact rfl
          exact t_ic_gt_t (by omega)
        apply t_S
        refine x_iconst ?_
        exact rfl
      · decide
    apply t_B
    · exact rfl
    exact t_ireq (Or.inr (Or.inl rfl)) (by rw [if_neg (by omega)]) rfl
  apply Exists.intro
  unfold tX12_in
  apply t_Q
  · apply t_S
    refine x_iload_n rfl ?_
    refine x_iload_n rfl ?_
    exact rfl
  apply t_Q
  · apply t_K
    apply t_Qs
    apply t_Ks
    · apply t_Q
      · apply t_B
        · exact rfl
        exact t_ic_lt_f (by omega)
      apply t_Q
      · apply t_B
        · refine x_iload_n rfl ?_
          refine x_iload_n rfl ?_
          exact rfl
        exact t_ic_gt_f (by omega)
      apply t_B
      · refine x_iconst ?_
        exact rfl
      exact t_goto
    · decide
  apply t_B
  · exact rfl
  exact t_ireq (Or.inr (Or.inr rfl)) (by rw [if_pos (by omega)]) rfl
set_option maxRecDepth 10000 in
theorem s_wordAt {d : Nat} {h : am_H} {i j : Int} (h1 : 0 ≤ i ∧ i ≤ 100) (h2 : 0 ≤ j ∧ j ≤ 100) : am_run am_tb (d + 1) 132 [vI i, vI j] h = some ([vI ((i + j) * (i + j + 1) / 2 + j)], h) := by
  refine run_of tb_X12_wordAt (Nat.le_of_ble_eq_true rfl) ?_
  show ∃ ls', am_ev (am_run am_tb (d + 0)) tX12_wordAt ([vI i, vI j], [], h) = some (1, ls', [vI ((i + j) * (i + j + 1) / 2 + j)], h)
  have e0 : 0 ≤ (i + j) * (i + j + 1) := Int.mul_nonneg (by omega) (by omega)
  have e1 : (i + j) * (i + j + 1) ≤ 200 * 201 := Int.mul_le_mul (by omega) (by omega) (by omega) (by omega)
  apply Exists.intro
  unfold tX12_wordAt
  apply t_B
  · refine x_iload_n rfl ?_
    refine x_iload_n rfl ?_
    refine x_iadd ?_
    refine x_iload_n rfl ?_
    refine x_iload_n rfl ?_
    refine x_iadd ?_
    refine x_iconst ?_
    refine x_iadd ?_
    refine x_imul ?_
    refine x_iconst ?_
    refine x_idiv (by omega) ?_
    refine x_iload_n rfl ?_
    refine x_iadd ?_
    exact rfl
  exact t_ireq (Or.inl rfl) (by rw [Int.tdiv_eq_ediv_of_nonneg e0]) rfl
set_option maxRecDepth 10000 in
theorem s_tell {d : Nat} {h : am_H} {v : Int} (h1 : inR v) : am_run am_tb (d + 1) 134 [vI v] h = some ([vI (if 5003 < v then v - 10007 else v)], h) := by
  refine run_of tb_X12_tell (Nat.le_of_ble_eq_true rfl) ?_
  show ∃ ls', am_ev (am_run am_tb (d + 0)) tX12_tell ([vI v], [], h) = some (1, ls', [vI (if 5003 < v then v - 10007 else v)], h)
  by_cases c1 : 5003 < v
  · apply Exists.intro
    unfold tX12_tell
    apply t_Q
    · apply t_S
      refine x_iload_n rfl ?_
      refine x_sipush ?_
      exact rfl
    apply t_Q
    · apply t_K
      apply t_Qs
      apply t_Ks
      · apply t_Q
        · apply t_B
          · exact rfl
          exact t_ic_le_f (by omega)
        apply t_B
        · refine x_iload_n rfl ?_
          refine x_sipush ?_
          refine x_isub ?_
          exact rfl
        exact t_goto
      · decide
    apply t_B
    · exact rfl
    exact t_ireq (Or.inl rfl) (by rw [if_pos c1]) rfl
  apply Exists.intro
  unfold tX12_tell
  apply t_Q
  · apply t_S
    refine x_iload_n rfl ?_
    refine x_sipush ?_
    exact rfl
  apply t_Q
  · apply t_Ks
    · apply t_Q
      · apply t_K
        apply t_Qs
        apply t_B
        · exact rfl
        exact t_ic_le_t (by omega)
      apply t_S
      refine x_iload_n rfl ?_
      exact rfl
    · decide
  apply t_B
  · exact rfl
  exact t_ireq (Or.inl rfl) (by rw [if_neg c1]) rfl
set_option maxRecDepth 10000 in
theorem s_restOf {d : Nat} {h : am_H} {v : Int} (h1 : inR v) : am_run am_tb (d + 1) 133 [vI v] h = some ([vI (v % 10007)], h) := by
  refine run_of tb_X12_restOf (Nat.le_of_ble_eq_true rfl) ?_
  show ∃ ls', am_ev (am_run am_tb (d + 0)) tX12_restOf ([vI v, vU], [], h) = some (1, ls', [vI (v % 10007)], h)
  have e : Int.tmod v 10007 = if 0 ≤ v then v % 10007 else -((-v) % 10007) := by
    by_cases c : 0 ≤ v
    · rw [if_pos c, Int.tmod_eq_emod_of_nonneg c]
    · rw [if_neg c, ← Int.tmod_eq_emod_of_nonneg (by omega), Int.neg_tmod, Int.neg_neg]
  by_cases c1 : Int.tmod v 10007 < 0
  · apply Exists.intro
    unfold tX12_restOf
    apply t_Q
    · apply t_S
      refine x_iload_n rfl ?_
      refine x_sipush ?_
      refine x_irem (by omega) ?_
      refine x_istore_n rfl ?_
      refine x_iload_n rfl ?_
      exact rfl
    apply t_Q
    · apply t_K
      apply t_Qs
      apply t_Ks
      · apply t_Q
        · apply t_B
          · exact rfl
          exact t_if_ge_f (by omega)
        apply t_B
        · refine x_iload_n rfl ?_
          refine x_sipush ?_
          refine x_iadd ?_
          exact rfl
        exact t_goto
      · decide
    apply t_B
    · exact rfl
    exact t_ireq (Or.inl rfl) (by split at e <;> omega) rfl
  apply Exists.intro
  unfold tX12_restOf
  apply t_Q
  · apply t_S
    refine x_iload_n rfl ?_
    refine x_sipush ?_
    refine x_irem (by omega) ?_
    refine x_istore_n rfl ?_
    refine x_iload_n rfl ?_
    exact rfl
  apply t_Q
  · apply t_Ks
    · apply t_Q
      · apply t_K
        apply t_Qs
        apply t_B
        · exact rfl
        exact t_if_ge_t (by omega)
      apply t_S
      refine x_iload_n rfl ?_
      exact rfl
    · decide
  apply t_B
  · exact rfl
  exact t_ireq (Or.inl rfl) (by split at e <;> omega) rfl
set_option maxRecDepth 10000 in
theorem s_wipe {d L : Nat} {I : Nat → Nat → Int} {R : Nat → Nat → Option Nat} {u : Int64} (hF : FixR R) {row : Int} (h1 : 0 ≤ row ∧ row < 46) : am_run am_tb (d + 1) 142 [vR 301, vI row] (LH L I R u) = some ([], LH L (au I 306 (fun j => if 496 * row ≤ (j : Int) ∧ (j : Int) < 496 * row + 496 then 0 else I 306 j)) R u) := by
  refine run_of tb_X12_wipe (Nat.le_of_ble_eq_true rfl) ?_
  show ∃ ls', am_ev (am_run am_tb (d + 0)) tX12_wipe ([vR 301, vI row, vU], [], (LH L I R u)) = some (1, ls', [], LH L (au I 306 (fun j => if 496 * row ≤ (j : Int) ∧ (j : Int) < 496 * row + 496 then 0 else I 306 j)) R u)
  have lp : am_lp (am_ev (am_run am_tb (d + 0)) wX12_wipe_2) 2 am_F ([vR 301, vI row, vI 0], [], LH L I R u) = some (30, [vR 301, vI row, vI 496], [], LH L (au I 306 (fun j => if 496 * row ≤ (j : Int) ∧ (j : Int) < 496 * row + 496 then 0 else I 306 j)) R u) := by
    refine lp_up0 (fun k => ([vR 301, vI row, vI k], [], LH L (au I 306 (fun j => if 496 * row ≤ (j : Int) ∧ (j : Int) < 496 * row + k then 0 else I 306 j)) R u)) 496 (s3 rfl (au_id.symm.trans (au_c (by funext j; rw [if_neg (by omega)])))) (by decide) (by show ¬ 30 = 2 + 2; decide) (fun k hk => ?_) ?_
    · unfold wX12_wipe_2
      apply t_Q
      · apply t_B
        · refine x_iload_n rfl ?_
          refine x_sipush ?_
          exact rfl
        exact t_ic_ge_f (by omega)
      apply t_B
      · refine x_aload_n rfl ?_
        refine x_gr tg_301 rfl (fx_301_6 hF) ?_
        refine x_sipush ?_
        refine x_iload_n rfl ?_
        refine x_imul ?_
        refine x_iload_n rfl ?_
        refine x_iadd ?_
        refine x_iconst ?_
        refine x_iast tg_306 (ln_306 L) (by omega) ?_
        refine x_iinc rfl rfl ?_
        exact rfl
      exact t_goeq (s3 rfl (au_w (by funext j; simp only [au]; split <;> split <;> first | rfl | omega | (split <;> first | rfl | omega))))
    · unfold wX12_wipe_2
      apply t_Qs
      apply t_B
      · refine x_iload_n rfl ?_
        refine x_sipush ?_
        exact rfl
      exact t_ic_ge_t (by omega)
  apply Exists.intro
  unfold tX12_wipe
  apply t_Q
  · apply t_S
    refine x_iconst ?_
    refine x_istore_n rfl ?_
    exact rfl
  apply t_Q
  · apply t_K
    apply t_W
    exact lp
  apply t_B
  · exact rfl
  exact rfl
