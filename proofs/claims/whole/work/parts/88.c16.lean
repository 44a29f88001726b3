/-! The class: what operators make of polynomials. Written by wip/whole/gen_88.py. -/
/-- the first n cells of an array become a row -/
def stv (I : Nat → Nat → Int) (T n : Nat) (f : Nat → Int) : Nat → Nat → Int := au I T (fun j => if j < n then f j else I T j)
theorem stv_s {I : Nat → Nat → Int} {T n j : Nat} {f : Nat → Int} (h : j < n) : stv I T n f T j = f j := by
  unfold stv
  rw [au_s]
  exact if_pos h
theorem stv_o {I : Nat → Nat → Int} {T n a : Nat} {f : Nat → Int} (h : a ≠ T) : stv I T n f a = I a := au_n _ _ h
theorem stv_c {I : Nat → Nat → Int} {T n : Nat} {f g : Nat → Int} (h : ∀ j, j < n → f j = g j) : stv I T n f = stv I T n g := by
  unfold stv
  refine au_c ?_
  funext j
  split
  · exact h j (by omega)
  · rfl
theorem stv_id {I : Nat → Nat → Int} {T n : Nat} {f : Nat → Int} (h : ∀ j, j < n → f j = I T j) : stv I T n f = I := by
  unfold stv
  refine (au_c ?_).trans au_id
  funext j
  split
  · exact h j (by omega)
  · rfl
theorem stv_stv {I : Nat → Nat → Int} {T n : Nat} {f g : Nat → Int} : stv (stv I T n f) T n g = stv I T n g := by
  unfold stv
  rw [au_au]
  refine au_c ?_
  funext j
  rw [au_s]
  split
  · rfl
  · rfl
theorem stv_w {I : Nat → Nat → Int} {T n t : Nat} {f g : Nat → Int} {v i : Int} (hi : i = (t : Nat)) (ht : t < n) (h : ∀ w, w < n → g w = if w = t then v else f w) : au (stv I T n f) T (au (stv I T n f T) i.toNat v) = stv I T n g := by
  subst hi
  unfold stv
  rw [au_au, au_s]
  refine au_c ?_
  funext j
  rw [au_i, Int.toNat_natCast]
  by_cases e : j = t
  · rw [if_pos e, if_pos (by omega), h j (by omega), if_pos e]
  · rw [if_neg e]
    by_cases e2 : j < n
    · rw [if_pos e2, if_pos e2, h j e2, if_neg e]
    · rw [if_neg e2, if_neg e2]
theorem Tbc_v {I : Nat → Nat → Int} {T n : Nat} {f : Nat → Int} (h : Tbc I) (hc : Nt T) : Tbc (stv I T n f) := Tbc_o h (fun a ha => stv_o (fun e => ha (e ▸ hc)))
/-- what the first m words of an operator make of a power of x, at a power -/
def imS (e : Nat → Int) (n p m : Nat) : Int := smk (fun k => if dw k ≤ n ∧ n - dw k + xw k = p then e k * fal n (dw k) else 0) m
theorem imS_s (e : Nat → Int) (n p m : Nat) : imS e n p (m + 1) = imS e n p m + (if dw m ≤ n ∧ n - dw m + xw m = p then e m * fal n (dw m) else 0) := rfl
theorem tri_w {D j : Nat} (h : j ≤ D) : xw (tri D + j) = D - j ∧ dw (tri D + j) = j := by
  have hpk : tri D + j = pl (D - j) j := by unfold pl; rw [show D - j + j = D by omega]
  rw [hpk, xw_pl, dw_pl]
  exact ⟨rfl, rfl⟩
theorem imS_e {e : Nat → Int} {n p D j : Nat} (hn : n < j) (hj : j ≤ D + 1) : imS e n p (tri (D + 1)) = imS e n p (tri D + j) := by
  rw [tri_s]
  refine smk_ext (by omega) (fun k h1 h2 => if_neg ?_)
  obtain ⟨m, rfl⟩ : ∃ m, k = tri D + m := ⟨k - tri D, by omega⟩
  rw [(tri_w (show m ≤ D by omega)).2]
  omega
set_option maxRecDepth 10000 in
theorem lp0_degree {d L : Nat} {I : Nat → Nat → Int} {R : Nat → Nat → Option Nat} {u : Int64} {c : Nat} (hc : Arx c 31) (hr : ∀ j, j < 31 → 0 ≤ I c j ∧ I c j < 10007) : am_lp (am_ev (am_run am_tb d) wX0_degree_5) 5 am_F ([vR c, vI 30], [], LH L I R u) = some (if zp (I c) = 31 then (25, [vR c, vI (-1)], [], LH L I R u) else (1, [vR c, vI (30 - (zp (I c) : Int))], [vI (30 - (zp (I c) : Int))], LH L I R u)) := by
  have hz := zp_le (I c)
  refine lp_up0 (fun k => ([vR c, vI (30 - (k : Int))], [], LH L I R u)) (zp (I c)) rfl (ltF (by omega)) (by split <;> (first | (show ¬ 25 = 5 + 2; decide) | (show ¬ 1 = 5 + 2; decide))) (fun k hk => ?_) ?_
  · have h0 := zp_no hk
    unfold wX0_degree_5
    apply t_Q
    · apply t_B
      · refine x_iload_n rfl ?_
        exact rfl
      exact t_if_lt_f (by omega)
    apply t_Q
    · apply t_S
      refine x_aload_n rfl ?_
      refine x_iload_n rfl ?_
      refine x_ialdv (Or.inl hc.1) (hc.2.1 L) (by omega) (show _ = I c (30 - k) from congrArg (I c) (by omega)) ?_
      exact rfl
    apply t_Q
    · apply t_K
      apply t_Qs
      apply t_B
      · exact rfl
      exact t_if_eq_t (by omega)
    apply t_B
    · refine x_iinc rfl rfl ?_
      exact rfl
    exact t_goeq (by rw [show (30 : Int) - (k : Int) + -1 = 30 - ((k + 1 : Nat) : Int) by omega]; rfl)
  · by_cases q : zp (I c) = 31
    · rw [if_pos q]
      rw [show (30 : Int) - (zp (I c) : Int) = -1 by omega]
      unfold wX0_degree_5
      apply t_Qs
      apply t_B
      · refine x_iload_n rfl ?_
        exact rfl
      exact t_if_lt_t (by omega)
    · rw [if_neg q]
      have hy := zp_yes q
      have h1 := hr (30 - zp (I c)) (by omega)
      unfold wX0_degree_5
      apply t_Q
      · apply t_B
        · refine x_iload_n rfl ?_
          exact rfl
        exact t_if_lt_f (by omega)
      apply t_Q
      · apply t_S
        refine x_aload_n rfl ?_
        refine x_iload_n rfl ?_
        refine x_ialdv (Or.inl hc.1) (hc.2.1 L) (by omega) (show _ = I c (30 - zp (I c)) from congrArg (I c) (by omega)) ?_
        exact rfl
      apply t_Qs
      apply t_Ks
      · apply t_Q
        · apply t_B
          · exact rfl
          exact t_if_eq_f (by omega)
        apply t_B
        · refine x_iload_n rfl ?_
          exact rfl
        exact t_ireq (Or.inl rfl) rfl rfl
      · decide
set_option maxRecDepth 10000 in
theorem s0_degree {d L : Nat} {I : Nat → Nat → Int} {R : Nat → Nat → Option Nat} {u : Int64} {c : Nat} (hc : Arx c 31) (hr : ∀ j, j < 31 → 0 ≤ I c j ∧ I c j < 10007) : am_run am_tb (d + 1) 1 [vR c] (LH L I R u) = some ([vI (30 - (zp (I c) : Int))], LH L I R u) := by
  refine run_of tb_X0_degree (Nat.le_of_ble_eq_true rfl) ?_
  show ∃ ls', am_ev (am_run am_tb (d + 0)) tX0_degree ([vR c, vU], [], (LH L I R u)) = some (1, ls', [vI (30 - (zp (I c) : Int))], LH L I R u)
  have hl := lp0_degree (d := d) (L := L) (u := u) (R := R) hc hr
  by_cases q : zp (I c) = 31
  · rw [if_pos q] at hl
    rw [show (30 : Int) - (zp (I c) : Int) = -1 by omega]
    apply Exists.intro
    unfold tX0_degree
    apply t_Q
    · apply t_S
      refine x_aload_n rfl ?_
      refine x_alen (Or.inl hc.1) ?_
      rw [hc.2.1 L]
      refine x_iconst ?_
      refine x_isub ?_
      refine x_istore_n rfl ?_
      exact rfl
    apply t_Q
    · apply t_K
      apply t_W
      exact hl
    apply t_B
    · refine x_iconst ?_
      exact rfl
    exact t_ireq (Or.inl rfl) rfl rfl
  · rw [if_neg q] at hl
    apply Exists.intro
    unfold tX0_degree
    apply t_Q
    · apply t_S
      refine x_aload_n rfl ?_
      refine x_alen (Or.inl hc.1) ?_
      rw [hc.2.1 L]
      refine x_iconst ?_
      refine x_isub ?_
      refine x_istore_n rfl ?_
      exact rfl
    apply t_Qs
    apply t_Ks
    · apply t_W
      exact hl
    · decide
set_option maxRecDepth 10000 in
theorem lp0_imi {d L : Nat} {I : Nat → Nat → Int} {R : Nat → Nat → Option Nat} {u : Int64} {T a e : Nat} (hF : FixR R) (hB : Tbc I) (hT : Arx T 31) (ha : Opx R a e) (hN : Nt T) (heT : e ≠ T) (hr : ∀ j, j < 31 → 0 ≤ I T j ∧ I T j < 10007) (he : Rsc I e) {v : Int} (hv : 0 ≤ v ∧ v < 10007) {n : Nat} (hn : n ≤ 30) {D : Nat} (hD : D ≤ 12) {w7 w8 w9 : am_V} : ∃ r, am_lp (am_ev (am_run am_tb (d + 1)) wX0_addImage_13) 13 am_F ([vR 235, vR T, vR a, vI v, vI n, vI D, vI 0, w7, w8, w9], [], LH L (stv I T 31 (fun p => (I T p + v * imS (I e) n p (tri D)) % 10007)) R u) = some r ∧ ∃ l6 l7 l8 l9, r = (115, [vR 235, vR T, vR a, vI v, vI n, vI D, l6, l7, l8, l9], [], LH L (stv I T 31 (fun p => (I T p + v * imS (I e) n p (tri (D + 1))) % 10007)) R u) := by
  have ht := tri_m (show D + 1 ≤ 13 by omega)
  rw [tri_13, tri_s] at ht
  refine lp_inv (fun j y => ∃ l7 l8 l9, y = ([vR 235, vR T, vR a, vI v, vI n, vI D, vI j, l7, l8, l9], [], LH L (stv I T 31 (fun p => (I T p + v * imS (I e) n p (tri D + j)) % 10007)) R u)) _ (min D n + 1) ⟨_, _, _, rfl⟩ (ltF (by omega)) (fun j y hj hp => ?_) (fun y hp => ?_)
  · obtain ⟨l7, l8, l9, e0⟩ := hp
    subst e0
    have hw := tri_w (show j ≤ D by omega)
    have he1 := he (tri D + j) (by omega)
    have hf := fal_b n j
    have m1 := mul_b (a := I e (tri D + j)) (b := fal n j) (m := 10006) (n := 10006) (by omega) (by omega)
    have m2 := mul_b (a := v) (b := I e (tri D + j) * fal n j % 10007) (m := 10006) (n := 10006) (by omega) (by omega)
    have hnx : ∀ p, imS (I e) n p (tri D + (j + 1)) = imS (I e) n p (tri D + j) + (if n - j + (D - j) = p then I e (tri D + j) * fal n j else 0) := fun p => by
      show imS (I e) n p (tri D + j + 1) = _
      rw [imS_s, hw.1, hw.2]
      by_cases q : n - j + (D - j) = p
      · rw [if_pos q, if_pos ⟨by omega, q⟩]
      · rw [if_neg q, if_neg (fun z => q z.2)]
    by_cases q0 : I e (tri D + j) = 0
    · have hg : (stv I T 31 (fun p => (I T p + v * imS (I e) n p (tri D + j)) % 10007)) = (stv I T 31 (fun p => (I T p + v * imS (I e) n p (tri D + (j + 1))) % 10007)) := stv_c (fun p hp => by
        rw [hnx, q0, Int.zero_mul, ite_self, Int.add_zero])
      refine inv_e3 (ls := fun l7 l8 l9 => [vR 235, vR T, vR a, vI v, vI n, vI D, vI ((j + 1 : Nat) : Int), l7, l8, l9]) (h := LH L (stv I T 31 (fun p => (I T p + v * imS (I e) n p (tri D + (j + 1))) % 10007)) R u) ?_ (fun _ _ _ => ⟨_, _, _, rfl⟩)
      apply Exists.intro
      apply Exists.intro
      apply Exists.intro
      rw [← hg]
      unfold wX0_addImage_13
      apply t_Q
      · apply t_B
        · refine x_iload rfl ?_
          refine x_iload rfl ?_
          exact rfl
        exact t_ic_gt_f (by omega)
      apply t_Q
      · apply t_B
        · refine x_iload rfl ?_
          refine x_iload rfl ?_
          exact rfl
        exact t_ic_gt_f (by omega)
      apply t_Q
      · apply t_S
        refine x_aload_n rfl ?_
        refine x_gr ha.1 rfl ha.2.1 ?_
        refine x_iload rfl ?_
        refine x_S1i (by decide) (Nat.le_of_ble_eq_true rfl) (s6_firstPlace (d := d) (n := D) (by omega)) ?_
        refine x_iload rfl ?_
        refine x_iadd ?_
        refine x_ialdv (Or.inl ha.2.2.1) (ha.2.2.2 L) (by omega) (show _ = I e (tri D + j) from (congrFun (stv_o heT) _).trans (congrArg (I e) (by omega))) ?_
        refine x_istore rfl ?_
        refine x_iload rfl ?_
        refine x_iload rfl ?_
        refine x_isub ?_
        refine x_iload rfl ?_
        refine x_iadd ?_
        refine x_iload rfl ?_
        refine x_isub ?_
        rw [show (n : Int) - (j : Int) + (D : Int) - (j : Int) = ((n - j + (D - j) : Nat) : Int) by omega]
        refine x_istore rfl ?_
        refine x_iload rfl ?_
        exact rfl
      apply t_Q
      · apply t_K
        apply t_Qs
        apply t_B
        · exact rfl
        exact t_if_eq_t (by omega)
      apply t_B
      · refine x_iinc rfl rfl ?_
        exact rfl
      exact t_goeq rfl
    by_cases q1 : 30 < n - j + (D - j)
    · have hg : (stv I T 31 (fun p => (I T p + v * imS (I e) n p (tri D + j)) % 10007)) = (stv I T 31 (fun p => (I T p + v * imS (I e) n p (tri D + (j + 1))) % 10007)) := stv_c (fun p hp => by
        rw [hnx, if_neg (by omega), Int.add_zero])
      refine inv_e3 (ls := fun l7 l8 l9 => [vR 235, vR T, vR a, vI v, vI n, vI D, vI ((j + 1 : Nat) : Int), l7, l8, l9]) (h := LH L (stv I T 31 (fun p => (I T p + v * imS (I e) n p (tri D + (j + 1))) % 10007)) R u) ?_ (fun _ _ _ => ⟨_, _, _, rfl⟩)
      apply Exists.intro
      apply Exists.intro
      apply Exists.intro
      rw [← hg]
      unfold wX0_addImage_13
      apply t_Q
      · apply t_B
        · refine x_iload rfl ?_
          refine x_iload rfl ?_
          exact rfl
        exact t_ic_gt_f (by omega)
      apply t_Q
      · apply t_B
        · refine x_iload rfl ?_
          refine x_iload rfl ?_
          exact rfl
        exact t_ic_gt_f (by omega)
      apply t_Q
      · apply t_S
        refine x_aload_n rfl ?_
        refine x_gr ha.1 rfl ha.2.1 ?_
        refine x_iload rfl ?_
        refine x_S1i (by decide) (Nat.le_of_ble_eq_true rfl) (s6_firstPlace (d := d) (n := D) (by omega)) ?_
        refine x_iload rfl ?_
        refine x_iadd ?_
        refine x_ialdv (Or.inl ha.2.2.1) (ha.2.2.2 L) (by omega) (show _ = I e (tri D + j) from (congrFun (stv_o heT) _).trans (congrArg (I e) (by omega))) ?_
        refine x_istore rfl ?_
        refine x_iload rfl ?_
        refine x_iload rfl ?_
        refine x_isub ?_
        refine x_iload rfl ?_
        refine x_iadd ?_
        refine x_iload rfl ?_
        refine x_isub ?_
        rw [show (n : Int) - (j : Int) + (D : Int) - (j : Int) = ((n - j + (D - j) : Nat) : Int) by omega]
        refine x_istore rfl ?_
        refine x_iload rfl ?_
        exact rfl
      apply t_Q
      · apply t_K
        apply t_Q
        · apply t_B
          · exact rfl
          exact t_if_eq_f (by omega)
        apply t_Qs
        apply t_B
        · refine x_iload rfl ?_
          refine x_bipush ?_
          exact rfl
        exact t_ic_gt_t (by omega)
      apply t_B
      · refine x_iinc rfl rfl ?_
        exact rfl
      exact t_goeq rfl
    refine inv_e3 (ls := fun l7 l8 l9 => [vR 235, vR T, vR a, vI v, vI n, vI D, vI ((j + 1 : Nat) : Int), l7, l8, l9]) (h := LH L (stv I T 31 (fun p => (I T p + v * imS (I e) n p (tri D + (j + 1))) % 10007)) R u) ?_ (fun _ _ _ => ⟨_, _, _, rfl⟩)
    apply Exists.intro
    apply Exists.intro
    apply Exists.intro
    unfold wX0_addImage_13
    apply t_Q
    · apply t_B
      · refine x_iload rfl ?_
        refine x_iload rfl ?_
        exact rfl
      exact t_ic_gt_f (by omega)
    apply t_Q
    · apply t_B
      · refine x_iload rfl ?_
        refine x_iload rfl ?_
        exact rfl
      exact t_ic_gt_f (by omega)
    apply t_Q
    · apply t_S
      refine x_aload_n rfl ?_
      refine x_gr ha.1 rfl ha.2.1 ?_
      refine x_iload rfl ?_
      refine x_S1i (by decide) (Nat.le_of_ble_eq_true rfl) (s6_firstPlace (d := d) (n := D) (by omega)) ?_
      refine x_iload rfl ?_
      refine x_iadd ?_
      refine x_ialdv (Or.inl ha.2.2.1) (ha.2.2.2 L) (by omega) (show _ = I e (tri D + j) from (congrFun (stv_o heT) _).trans (congrArg (I e) (by omega))) ?_
      refine x_istore rfl ?_
      refine x_iload rfl ?_
      refine x_iload rfl ?_
      refine x_isub ?_
      refine x_iload rfl ?_
      refine x_iadd ?_
      refine x_iload rfl ?_
      refine x_isub ?_
      rw [show (n : Int) - (j : Int) + (D : Int) - (j : Int) = ((n - j + (D - j) : Nat) : Int) by omega]
      refine x_istore rfl ?_
      refine x_iload rfl ?_
      exact rfl
    apply t_Q
    · apply t_Ks
      · apply t_Q
        · apply t_B
          · exact rfl
          exact t_if_eq_f (by omega)
        apply t_Q
        · apply t_B
          · refine x_iload rfl ?_
            refine x_bipush ?_
            exact rfl
          exact t_ic_gt_f (by omega)
        apply t_S
        refine x_iload_n rfl ?_
        refine x_iload rfl ?_
        refine x_aload_n rfl ?_
        refine x_gr tg_235 rfl (fx_235_0 hF) ?_
        refine x_iload rfl ?_
        refine x_aald (by rw [tg_125]; decide) (ln_125 L) (by omega) (fx_fa hF (q := n) (by omega)) ?_
        refine x_iload rfl ?_
        refine x_ialdv (Or.inl (tg_fa (q := n) (by omega))) (ln_fa L (q := n) (by omega)) (by omega) (show _ = fal n j from (congrFun (stv_o (by unfold Nt at hN; omega)) _).trans (hB.2.2 n j (by omega) (by omega) (by omega))) ?_
        refine x_imul ?_
        refine x_sipush ?_
        refine x_irem0 (by omega) ?_
        refine x_imul ?_
        refine x_sipush ?_
        refine x_irem0 (by omega) ?_
        refine x_istore rfl ?_
        refine x_aload_n rfl ?_
        refine x_iload rfl ?_
        refine x_aload_n rfl ?_
        refine x_iload rfl ?_
        refine x_ialdv (Or.inl hT.1) (hT.2.1 L) (by omega) (show _ = (I T (n - j + (D - j)) + v * imS (I e) n (n - j + (D - j)) (tri D + j)) % 10007 from stv_s (by omega)) ?_
        refine x_iload rfl ?_
        refine x_iadd ?_
        refine x_sipush ?_
        refine x_irem0 (by omega) ?_
        refine x_iast hT.1 (hT.2.1 L) (by omega) ?_
        exact rfl
      · decide
    apply t_B
    · refine x_iinc rfl rfl ?_
      exact rfl
    refine t_goeq (s3 rfl (stv_w (t := n - j + (D - j)) rfl (by omega) (fun p hp => ?_)))
    rw [hnx, Int.mul_add]
    by_cases ew : p = n - j + (D - j)
    · rw [if_pos ew.symm, if_pos ew, ew, em2]
      omega
    · rw [if_neg (fun z => ew z.symm), if_neg ew, Int.mul_zero, Int.add_zero]
  · obtain ⟨l7, l8, l9, e0⟩ := hp
    subst e0
    refine ⟨(115, [vR 235, vR T, vR a, vI v, vI n, vI D, vI ((min D n + 1 : Nat) : Int), l7, l8, l9], [], LH L (stv I T 31 (fun p => (I T p + v * imS (I e) n p (tri D + (min D n + 1))) % 10007)) R u), ?_, by show ¬ 115 = 13 + 2; decide, ⟨vI ((min D n + 1 : Nat) : Int), l7, l8, l9, ?_⟩⟩
    · by_cases q : D ≤ n
      · rw [show min D n = D by omega]
        unfold wX0_addImage_13
        apply t_Qs
        apply t_B
        · refine x_iload rfl ?_
          refine x_iload rfl ?_
          exact rfl
        exact t_ic_gt_t (by omega)
      · rw [show min D n = n by omega]
        unfold wX0_addImage_13
        apply t_Q
        · apply t_B
          · refine x_iload rfl ?_
            refine x_iload rfl ?_
            exact rfl
          exact t_ic_gt_f (by omega)
        apply t_Qs
        apply t_B
        · refine x_iload rfl ?_
          refine x_iload rfl ?_
          exact rfl
        exact t_ic_gt_t (by omega)
    · have hg : (stv I T 31 (fun p => (I T p + v * imS (I e) n p (tri D + (min D n + 1))) % 10007)) = (stv I T 31 (fun p => (I T p + v * imS (I e) n p (tri (D + 1))) % 10007)) := stv_c (fun p hp => by
        by_cases q : D ≤ n
        · rw [show min D n = D by omega, tri_s]
        · rw [imS_e (show n < min D n + 1 by omega) (by omega)])
      rw [hg]
set_option maxRecDepth 10000 in
theorem lp0_imo {d L : Nat} {I : Nat → Nat → Int} {R : Nat → Nat → Option Nat} {u : Int64} {T a e : Nat} (hF : FixR R) (hB : Tbc I) (hT : Arx T 31) (ha : Opx R a e) (hN : Nt T) (heT : e ≠ T) (hr : ∀ j, j < 31 → 0 ≤ I T j ∧ I T j < 10007) (he : Rsc I e) {v : Int} (hv : 0 ≤ v ∧ v < 10007) {n : Nat} (hn : n ≤ 30) : ∃ r, am_lp (am_ev (am_run am_tb (d + 1)) wX0_addImage_3) 3 am_F ([vR 235, vR T, vR a, vI v, vI n, vI 0, vU, vU, vU, vU], [], LH L I R u) = some r ∧ ∃ l6 l7 l8 l9, r = (121, [vR 235, vR T, vR a, vI v, vI n, vI 13, l6, l7, l8, l9], [], LH L (stv I T 31 (fun p => (I T p + v * imS (I e) n p (91)) % 10007)) R u) := by
  refine lp_inv (fun D y => ∃ l6 l7 l8 l9, y = ([vR 235, vR T, vR a, vI v, vI n, vI D, l6, l7, l8, l9], [], LH L (stv I T 31 (fun p => (I T p + v * imS (I e) n p (tri D)) % 10007)) R u)) _ 13 ⟨_, _, _, _, s3 rfl (stv_id (fun p hp => ?_)).symm⟩ (ltF (by omega)) (fun D y hD hp => ?_) (fun y hp => ?_)
  · have := hr p hp
    show (I T p + v * 0) % 10007 = I T p
    rw [Int.mul_zero]
    omega
  · obtain ⟨l6, l7, l8, l9, e0⟩ := hp
    subst e0
    obtain ⟨r, hl, m6, m7, m8, m9, er⟩ := lp0_imi (d := d) (L := L) (u := u) hF hB hT ha hN heT hr he hv hn (D := D) (by omega) (w7 := l7) (w8 := l8) (w9 := l9)
    subst er
    refine ⟨([vR 235, vR T, vR a, vI v, vI n, vI ((D + 1 : Nat) : Int), m6, m7, m8, m9], [], LH L (stv I T 31 (fun p => (I T p + v * imS (I e) n p (tri (D + 1))) % 10007)) R u), ?_, ⟨m6, m7, m8, m9, rfl⟩⟩
    unfold wX0_addImage_3
    apply t_Q
    · apply t_B
      · refine x_iload rfl ?_
        refine x_bipush ?_
        exact rfl
      exact t_ic_gt_f (by omega)
    apply t_Q
    · apply t_S
      refine x_iconst ?_
      refine x_istore rfl ?_
      exact rfl
    apply t_Q
    · apply t_K
      apply t_W
      exact hl
    apply t_B
    · refine x_iinc rfl rfl ?_
      exact rfl
    exact t_goeq rfl
  · obtain ⟨l6, l7, l8, l9, e0⟩ := hp
    subst e0
    refine ⟨(121, [vR 235, vR T, vR a, vI v, vI n, vI 13, l6, l7, l8, l9], [], LH L (stv I T 31 (fun p => (I T p + v * imS (I e) n p (tri 13)) % 10007)) R u), ?_, by show ¬ 121 = 3 + 2; decide, ⟨l6, l7, l8, l9, by rw [tri_13]⟩⟩
    unfold wX0_addImage_3
    apply t_Qs
    apply t_B
    · refine x_iload rfl ?_
      refine x_bipush ?_
      exact rfl
    exact t_ic_gt_t (by omega)
set_option maxRecDepth 10000 in
theorem s0_addImage {d L : Nat} {I : Nat → Nat → Int} {R : Nat → Nat → Option Nat} {u : Int64} {T a e : Nat} (hF : FixR R) (hB : Tbc I) (hT : Arx T 31) (ha : Opx R a e) (hN : Nt T) (heT : e ≠ T) (hr : ∀ j, j < 31 → 0 ≤ I T j ∧ I T j < 10007) (he : Rsc I e) {v : Int} (hv : 0 ≤ v ∧ v < 10007) {n : Nat} (hn : n ≤ 30) : am_run am_tb (d + 2) 4 [vR 235, vR T, vR a, vI v, vI n] (LH L I R u) = some ([], LH L (stv I T 31 (fun p => (I T p + v * imS (I e) n p (91)) % 10007)) R u) := by
  refine run_of tb_X0_addImage (Nat.le_of_ble_eq_true rfl) ?_
  show ∃ ls', am_ev (am_run am_tb (d + 1)) tX0_addImage ([vR 235, vR T, vR a, vI v, vI n, vU, vU, vU, vU, vU], [], (LH L I R u)) = some (1, ls', [], LH L (stv I T 31 (fun p => (I T p + v * imS (I e) n p (91)) % 10007)) R u)
  obtain ⟨r, hl, l6, l7, l8, l9, er⟩ := lp0_imo (d := d) (L := L) (u := u) hF hB hT ha hN heT hr he hv hn
  subst er
  apply Exists.intro
  unfold tX0_addImage
  apply t_Q
  · apply t_S
    refine x_iconst ?_
    refine x_istore rfl ?_
    exact rfl
  apply t_Q
  · apply t_K
    apply t_W
    exact hl
  apply t_B
  · exact rfl
  exact rfl
