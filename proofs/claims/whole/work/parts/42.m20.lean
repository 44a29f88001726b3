/-! The reference: what is written. Written by wip/whole/gen_42.py. -/
/-- the line holds l -/
def wrs (I : Nat → Nat → Int) (l : List Int) : Nat → Nat → Int := au (au I 317 (fun j => if j < l.length then l.getD j 0 else I 317 j)) 301 (au (I 301) 29 (l.length : Nat))
theorem getD_l {l : List Int} {c : Int} {j : Nat} (h : j < l.length) : (l ++ [c]).getD j 0 = l.getD j 0 := by
  rw [List.getD_eq_getElem?_getD, List.getD_eq_getElem?_getD, List.getElem?_append_left h]
theorem getD_e {l : List Int} {c : Int} : (l ++ [c]).getD l.length 0 = c := by
  rw [List.getD_eq_getElem?_getD, List.getElem?_append_right (Nat.le_refl _), Nat.sub_self]
  rfl
theorem wrs_s {I : Nat → Nat → Int} {l : List Int} {c : Int} : au (au (wrs I l) 317 (au ((wrs I l) 317) ((l.length : Nat) : Int).toNat c)) 301 (au ((au (wrs I l) 317 (au ((wrs I l) 317) ((l.length : Nat) : Int).toNat c)) 301) 29 (((l.length : Nat) : Int) + 1)) = wrs I (l ++ [c]) := by
  have hl : (l ++ [c]).length = l.length + 1 := by rw [List.length_append]; rfl
  funext a j
  unfold wrs
  rw [hl]
  simp only [au2, au_i, ↓reduceIte, Nat.reduceEqDiff, Int.toNat_natCast]
  by_cases a1 : a = 301
  · subst a1
    simp only [↓reduceIte, Nat.reduceEqDiff]
    by_cases j1 : j = 29
    · rw [if_pos j1, if_pos j1]; rfl
    · rw [if_neg j1, if_neg j1, if_neg j1]
  · by_cases a2 : a = 317
    · subst a2
      simp only [↓reduceIte, Nat.reduceEqDiff]
      by_cases j1 : j = l.length
      · rw [if_pos j1, if_pos (by omega), j1, getD_e]
      · rw [if_neg j1]
        by_cases j2 : j < l.length
        · rw [if_pos j2, if_pos (by omega), getD_l j2]
        · rw [if_neg j2, if_neg (by omega)]
    · simp only [if_neg a1, if_neg a2]
set_option maxRecDepth 10000 in
theorem s_writes {d L : Nat} {I : Nat → Nat → Int} {R : Nat → Nat → Option Nat} {u : Int64} (hF : FixR R) {l : List Int} {c : Int} (hl : l.length < 1500) : am_run am_tb (d + 1) 220 [vR 301, vI c] (LH L (wrs I l) R u) = some ([], LH L (wrs I (l ++ [c])) R u) := by
  refine run_of tb_X12_writes (Nat.le_of_ble_eq_true rfl) ?_
  show ∃ ls', am_ev (am_run am_tb (d + 0)) tX12_writes ([vR 301, vI c], [], (LH L (wrs I l) R u)) = some (1, ls', [], LH L (wrs I (l ++ [c])) R u)
  apply Exists.intro
  unfold tX12_writes
  apply t_B
  · refine x_aload_n rfl ?_
    refine x_gr tg_301 rfl (fx_301_28 hF) ?_
    refine x_aload_n rfl ?_
    refine x_giv tg_301 rfl (show _ = ((l.length : Nat) : Int) from rfl) ?_
    refine x_iload_n rfl ?_
    refine x_iast tg_317 (ln_317 L) (by omega) ?_
    refine x_aload_n rfl ?_
    refine x_dup rfl ?_
    refine x_giv tg_301 rfl (show _ = ((l.length : Nat) : Int) from rfl) ?_
    refine x_iconst ?_
    refine x_iadd ?_
    refine x_pi tg_301 rfl rfl ?_
    exact rfl
  exact t_vreq (LH_c wrs_s)
def tpf : Nat → Int
  | 0 => 1
  | 1 => 10
  | 2 => 100
  | 3 => 1000
  | _ => 10000
def nd (v : Int) : Nat := if v < 10 then 0 else if v < 100 then 1 else if v < 1000 then 2 else 3
theorem nd_b (v : Int) : nd v ≤ 3 := by unfold nd; (repeat' split) <;> omega
theorem tpf_p (k : Nat) : 1 ≤ tpf k ∧ tpf k ≤ 10000 := by
  unfold tpf; split <;> omega
theorem tpf_s {k : Nat} (h : k ≤ 3) : tpf k * 10 = tpf (k + 1) := by
  rcases (show k = 0 ∨ k = 1 ∨ k = 2 ∨ k = 3 by omega) with e | e | e | e <;> subst e <;> rfl
theorem nd_le {v : Int} {k : Nat} (h : k < nd v) : tpf (k + 1) ≤ v := by
  have b := nd_b v
  have h2 : nd v = if v < 10 then 0 else if v < 100 then 1 else if v < 1000 then 2 else 3 := rfl
  rcases (show k = 0 ∨ k = 1 ∨ k = 2 by omega) with e | e | e
  · subst e
    show (10 : Int) ≤ v
    refine Int.not_lt.mp fun q => ?_
    rw [if_pos q] at h2
    omega
  · subst e
    show (100 : Int) ≤ v
    refine Int.not_lt.mp fun q => ?_
    by_cases c : v < 10
    · rw [if_pos c] at h2; omega
    · rw [if_neg c, if_pos q] at h2; omega
  · subst e
    show (1000 : Int) ≤ v
    refine Int.not_lt.mp fun q => ?_
    by_cases c : v < 10
    · rw [if_pos c] at h2; omega
    · by_cases c2 : v < 100
      · rw [if_neg c, if_pos c2] at h2; omega
      · rw [if_neg c, if_neg c2, if_pos q] at h2; omega
theorem nd_gt {v : Int} (h : v < 10000) : v < tpf (nd v + 1) := by
  unfold nd
  split
  · show v < 10; assumption
  · split
    · show v < 100; assumption
    · split
      · show v < 1000; assumption
      · show v < 10000; assumption
def tdf (n k : Nat) : Int := if k ≤ n then tpf (n - k) else 0
def dgp (v : Int) (n : Nat) : Nat → List Int
  | 0 => []
  | k + 1 => dgp v n k ++ [48 + v / tpf (n - k) % 10]
theorem dgp_l (v : Int) (n k : Nat) : (dgp v n k).length = k := by
  induction k with
  | zero => rfl
  | succ k ih => show (dgp v n k ++ [_]).length = k + 1; rw [List.length_append, ih]; rfl
theorem tdf_s {n k : Nat} (hn : n ≤ 3) (hk : k < n + 1) : tdf n k / 10 = tdf n (k + 1) := by
  unfold tdf
  rw [if_pos (by omega)]
  by_cases c : k = n
  · subst c; rw [if_neg (by omega), Nat.sub_self]; rfl
  · rw [if_pos (by omega), show n - k = (n - (k + 1)) + 1 by omega, ← tpf_s (by omega)]
    omega
/-- a number in figures -/
def num (v : Int) : List Int := dgp v (nd v) (nd v + 1)
set_option maxRecDepth 10000 in
theorem lp_num1 {d L : Nat} {I : Nat → Nat → Int} {R : Nat → Nat → Option Nat} {u : Int64} (hF : FixR R) {v : Int} (hv : 0 ≤ v ∧ v < 10000) {l : List Int} : am_lp (am_ev (am_run am_tb (d + 1)) wX12_writesNumber_2) 2 am_F ([vR 301, vI v, vI 1, vU], [], LH L I R u) = some (20, ([vR 301, vI v, vI (tpf (nd v)), vU], [], LH L I R u)) := by
  have hb := nd_b v
  refine lp_up0 (fun k => ([vR 301, vI v, vI (tpf k), vU], [], LH L I R u)) (nd v) rfl (ltF (by first | decide | omega)) (by show ¬ 20 = 2 + 2; decide) (fun k hk => ?_) ?_
  · have h1 := nd_le hk
    have hp := tpf_p k
    have h2 := tpf_s (show k ≤ 3 by omega)
    unfold wX12_writesNumber_2
    apply t_Q
    · apply t_B
      · refine x_iload_n rfl ?_
        refine x_bipush ?_
        refine x_imul ?_
        refine x_iload_n rfl ?_
        exact rfl
      exact t_ic_gt_f (by omega)
    apply t_B
    · refine x_iload_n rfl ?_
      refine x_bipush ?_
      refine x_imul ?_
      refine x_istore_n rfl ?_
      exact rfl
    exact t_goeq (s3 (congrArg (fun z => [vR 301, vI v, vI z, vU]) h2) rfl)
  · have h1 := nd_gt hv.2
    have hp := tpf_p (nd v)
    have h2 := tpf_s (show nd v ≤ 3 by omega)
    unfold wX12_writesNumber_2
    apply t_Qs
    apply t_B
    · refine x_iload_n rfl ?_
      refine x_bipush ?_
      refine x_imul ?_
      refine x_iload_n rfl ?_
      exact rfl
    exact t_ic_gt_t (by omega)
set_option maxRecDepth 10000 in
theorem lp_num2 {d L : Nat} {I : Nat → Nat → Int} {R : Nat → Nat → Option Nat} {u : Int64} (hF : FixR R) {v : Int} (hv : 0 ≤ v ∧ v < 10000) {l : List Int} (hl : l.length + 4 ≤ 1500) : am_lp (am_ev (am_run am_tb (d + 1)) wX12_writesNumber_20) 20 am_F ([vR 301, vI v, vI (tpf (nd v)), vI (tpf (nd v))], [], LH L (wrs I l) R u) = some (47, ([vR 301, vI v, vI (tpf (nd v)), vI (tdf (nd v) (nd v + 1))], [], LH L (wrs I (l ++ num v)) R u)) := by
  have hb := nd_b v
  refine lp_up0 (fun k => ([vR 301, vI v, vI (tpf (nd v)), vI (tdf (nd v) k)], [], LH L (wrs I (l ++ dgp v (nd v) k)) R u)) (nd v + 1) (by rw [show dgp v (nd v) 0 = [] from rfl, List.append_nil]; unfold tdf; rw [if_pos (Nat.zero_le _)]; rfl) (ltF (by first | decide | omega)) (by show ¬ 47 = 20 + 2; decide) (fun k hk => ?_) ?_
  · have hl2 : (l ++ dgp v (nd v) k).length < 1500 := by rw [List.length_append, dgp_l]; omega
    have ht : tdf (nd v) k = tpf (nd v - k) := by unfold tdf; rw [if_pos (by omega)]
    have hp := tpf_p (nd v - k)
    have hd := tdf_s (n := nd v) hb hk
    have hq : 0 ≤ v / tpf (nd v - k) ∧ v / tpf (nd v - k) ≤ v := ⟨Int.ediv_nonneg hv.1 (by omega), Int.ediv_le_self _ hv.1⟩
    rw [ht] at hd
    simp only [ht]
    unfold wX12_writesNumber_20
    apply t_Q
    · apply t_B
      · refine x_iload_n rfl ?_
        exact rfl
      exact t_if_le_f (by omega)
    apply t_B
    · refine x_aload_n rfl ?_
      refine x_bipush ?_
      refine x_iload_n rfl ?_
      refine x_iload_n rfl ?_
      refine x_idiv0 (by omega) ?_
      refine x_bipush ?_
      refine x_irem0 (by omega) ?_
      refine x_iadd ?_
      refine x_V2v tg_301 (Nat.le_of_ble_eq_true rfl) (s_writes (d := d) hF hl2) ?_
      refine x_iload_n rfl ?_
      refine x_bipush ?_
      refine x_idiv0 (by omega) ?_
      refine x_istore_n rfl ?_
      exact rfl
    exact t_goeq (s3 (congrArg (fun z => [vR 301, vI v, vI (tpf (nd v)), vI z]) hd) (by rw [List.append_assoc]; rfl))
  · have ht : tdf (nd v) (nd v + 1) = 0 := by unfold tdf; rw [if_neg (by omega)]
    simp only [ht]
    unfold wX12_writesNumber_20
    apply t_Qs
    apply t_B
    · refine x_iload_n rfl ?_
      exact rfl
    exact t_if_le_t (by omega)
set_option maxRecDepth 10000 in
theorem s_writesNumber {d L : Nat} {I : Nat → Nat → Int} {R : Nat → Nat → Option Nat} {u : Int64} (hF : FixR R) {v : Int} (hv : 0 ≤ v ∧ v < 10000) {l : List Int} (hl : l.length + 4 ≤ 1500) : am_run am_tb (d + 2) 221 [vR 301, vI v] (LH L (wrs I l) R u) = some ([], LH L (wrs I (l ++ num v)) R u) := by
  refine run_of tb_X12_writesNumber (Nat.le_of_ble_eq_true rfl) ?_
  show ∃ ls', am_ev (am_run am_tb (d + 1)) tX12_writesNumber ([vR 301, vI v, vU, vU], [], (LH L (wrs I l) R u)) = some (1, ls', [], LH L (wrs I (l ++ num v)) R u)
  apply Exists.intro
  unfold tX12_writesNumber
  apply t_Q
  · apply t_S
    refine x_iconst ?_
    refine x_istore_n rfl ?_
    exact rfl
  apply t_Q
  · apply t_K
    apply t_W
    exact lp_num1 (d := d) hF hv (l := l)
  apply t_Q
  · apply t_S
    refine x_iload_n rfl ?_
    refine x_istore_n rfl ?_
    exact rfl
  apply t_Q
  · apply t_K
    apply t_W
    exact lp_num2 (d := d) hF hv hl
  apply t_B
  · exact rfl
  exact rfl
