/-! The reference: sets, at, order, puts, rate, sums, times, bracket, power, reversed as they go through. Written by wip/whole/gen_30.py. -/
def tl (v : Int) : Int := if 5003 < v then v - 10007 else v
def m_set (I : Nat → Nat → Int) (n at' : Nat) (v : Int) : Nat → Nat → Int := au (m_rem I n) 302 (au (I 302) at' v)
theorem Nw_set {I : Nat → Nat → Int} {n a : Nat} {v : Int} (hR : Res I) (hT : Tabs I) : Nw I (m_set I n a v) n (au (I 302) a v) := by
  refine ⟨fun b hb => ?_, fun j hj => ?_, fun j => rfl, rfl, rfl, (show Tabs I from hT), hR, rfl, rfl, rfl⟩
  · unfold m_set m_rem
    rw [au_n _ _ (by omega), au_n _ _ (by omega), au_n _ _ (by omega)]
  · unfold m_set
    rw [au_s]
theorem pl_91 {i j : Nat} (h : i + j ≤ 12) : pl i j < 91 := by
  have := pl_lt h
  rw [show tri (12 + 1) = 91 by decide] at this
  exact this
theorem cnt_c {f g : Nat → Int} {n : Nat} (h : ∀ k, k < n → f k = g k) : cnt f n = cnt g n := by
  induction n with
  | zero => rfl
  | succ n ih =>
    show cnt f n + _ = cnt g n + _
    rw [ih (fun k hk => h k (by omega)), h n (by omega)]
def two (I : Nat → Nat → Int) (t w : Nat) : Nat → Nat → Int := sro (sro I 24 (fe I t)) 26 (fe I w)
section TWO
variable {I : Nat → Nat → Int} {t w : Nat}
theorem two_24 (k : Nat) (hk : k < 496) : gro (two I t w) 24 k = fe I t k := by unfold two; rw [gro_n hk (by decide), gro_s hk]
theorem two_26 (k : Nat) (hk : k < 496) : gro (two I t w) 26 k = fe I w k := by unfold two; rw [gro_s hk]
theorem two_F (hR : Res I) (hN : Nr I) (ht : t < 6) (hw : w < 6) : Fr I (two I t w) := Fr_s (Fr_s (Fr_r hR) (by decide) (fe_b hN ht)) (by decide) (fe_b hN hw)
theorem two_T (hT : Tabs I) : Tabs (two I t w) := Tabs_s (Tabs_s hT)
theorem two_n : two I t w 301 = I 301 := by unfold two; rw [sro_o (by decide), sro_o (by decide)]
end TWO
theorem s_keepF {d L : Nat} {I : Nat → Nat → Int} {R : Nat → Nat → Option Nat} {u : Int64} (hF : FixR R) (hR : Res I) {f : Nat → Int} {n s row : Nat} (hf : ∀ k, k < 496 → gro I row k = f k) (hn : I 301 2 = n) (h5 : n ≤ 5) (h1 : s < 6) (h2 : row < 46) : am_run am_tb (d + 3) 146 [vR 301, vI s, vI row] (LH L I R u) = some ([vI (cnt f 496 : Nat)], LH L (m_put (m_rem I n) s row) R u) := by
  rw [s_keeps (d := d) hF hR hn h5 h1 h2, cnt_c hf]
set_option maxRecDepth 10000 in
theorem s_sets_ok {d L : Nat} {I : Nat → Nat → Int} {R : Nat → Nat → Option Nat} {u : Int64} (hF : FixR R) (hR : Res I) (hT : Tabs I) (hN : Nr I) {n : Nat} (hn : I 301 2 = n) (h5 : n ≤ 5) {s i j : Nat} {c : Int} (hs : s < 6) (hij : i + j ≤ 12) (hc : inR c) : am_run am_tb (d + 3) 157 [vR 301, vI s, vI i, vI j, vI c] (LH L I R u) = some ([vI (tl (I 302 (91 * s + pl i j)))], LH L (m_set I n (91 * s + pl i j) (c % 10007)) R u) := by
  refine run_of tb_X12_sets (Nat.le_of_ble_eq_true rfl) ?_
  show ∃ ls', am_ev (am_run am_tb (d + 2)) tX12_sets ([vR 301, vI s, vI i, vI j, vI c, vU, vU], [], (LH L I R u)) = some (1, ls', [vI (tl (I 302 (91 * s + pl i j)))], LH L (m_set I n (91 * s + pl i j) (c % 10007)) R u)
  have hw := pl_91 hij
  have hv := hN.1 (91 * s + pl i j) (by omega)
  have e : (91 * (s : Int) + ((pl i j : Nat) : Int)).toNat = 91 * s + pl i j := by omega
  apply Exists.intro
  unfold tX12_sets
  apply t_Q
  · apply t_S
    refine x_iload_n rfl ?_
    refine x_S1i (by decide) (Nat.le_of_ble_eq_true rfl) (ret_t (show 0 ≤ (s : Int) ∧ (s : Int) ≤ 5 from by omega) (s_isOperator (d := d) (by omega))) ?_
    exact rfl
  apply t_Q
  · apply t_K
    apply t_Qs
    apply t_Ks
    · apply t_Q
      · apply t_B
        · exact rfl
        exact t_if_eq_f (by omega)
      apply t_B
      · refine x_iload_n rfl ?_
        refine x_iload_n rfl ?_
        refine x_S2i (by decide) (Nat.le_of_ble_eq_true rfl) (ret_t (show (0 ≤ (i : Int) ∧ (i : Int) ≤ 12) ∧ 0 ≤ (j : Int) ∧ (j : Int) ≤ 12 - i from by omega) (s_isWord (d := d) (by omega) (by omega))) ?_
        exact rfl
      exact t_if_ne_t (by omega)
    · decide
  apply t_B
  · refine x_aload_n rfl ?_
    refine x_V1v tg_301 (Nat.le_of_ble_eq_true rfl) (s_remembers (d := d + 1) hF hn h5) ?_
    refine x_bipush ?_
    refine x_iload_n rfl ?_
    refine x_imul ?_
    refine x_iload_n rfl ?_
    refine x_iload_n rfl ?_
    refine x_S2i (by decide) (Nat.le_of_ble_eq_true rfl) (s_word (d := d + 1) (a := i) (b := j) rfl rfl (by omega) (by omega)) ?_
    refine x_iadd ?_
    refine x_istore rfl ?_
    refine x_aload_n rfl ?_
    refine x_gr tg_301 rfl (fx_301_0 hF) ?_
    refine x_iload rfl ?_
    refine x_ialdv (Or.inl tg_302) (ln_302 L) (by omega) (show _ = I 302 (91 * s + pl i j) from congrArg (I 302) (by omega)) ?_
    refine x_istore rfl ?_
    refine x_aload_n rfl ?_
    refine x_gr tg_301 rfl (fx_301_0 hF) ?_
    refine x_iload rfl ?_
    refine x_iload rfl ?_
    refine x_S1i (by decide) (Nat.le_of_ble_eq_true rfl) (s_restOf (d := d + 1) hc) ?_
    refine x_iast tg_302 (ln_302 L) (by omega) ?_
    refine x_iload rfl ?_
    refine x_S1i (by decide) (Nat.le_of_ble_eq_true rfl) (s_tell (d := d + 1) (v := I 302 (91 * s + pl i j)) (by omega)) ?_
    exact rfl
  exact t_ireq (Or.inl rfl) rfl (LH_c (by rw [e]; rfl))
set_option maxRecDepth 10000 in
theorem s_at_ok {d L : Nat} {I : Nat → Nat → Int} {R : Nat → Nat → Option Nat} {u : Int64} (hF : FixR R) (hR : Res I) (hT : Tabs I) (hN : Nr I) {n : Nat} (hn : I 301 2 = n) (h5 : n ≤ 5) {s i j : Nat} (hs : s < 6) (hij : i + j ≤ 12) : am_run am_tb (d + 3) 158 [vR 301, vI s, vI i, vI j] (LH L I R u) = some ([vI (tl (I 302 (91 * s + pl i j)))], LH L I R u) := by
  refine run_of tb_X12_at (Nat.le_of_ble_eq_true rfl) ?_
  show ∃ ls', am_ev (am_run am_tb (d + 2)) tX12_at ([vR 301, vI s, vI i, vI j], [], (LH L I R u)) = some (1, ls', [vI (tl (I 302 (91 * s + pl i j)))], LH L I R u)
  have hw := pl_91 hij
  have hv := hN.1 (91 * s + pl i j) (by omega)
  apply Exists.intro
  unfold tX12_at
  apply t_Q
  · apply t_S
    refine x_iload_n rfl ?_
    refine x_S1i (by decide) (Nat.le_of_ble_eq_true rfl) (ret_t (show 0 ≤ (s : Int) ∧ (s : Int) ≤ 5 from by omega) (s_isOperator (d := d) (by omega))) ?_
    exact rfl
  apply t_Q
  · apply t_K
    apply t_Qs
    apply t_Ks
    · apply t_Q
      · apply t_B
        · exact rfl
        exact t_if_eq_f (by omega)
      apply t_Q
      · apply t_B
        · refine x_iload_n rfl ?_
          refine x_iload_n rfl ?_
          refine x_S2i (by decide) (Nat.le_of_ble_eq_true rfl) (ret_t (show (0 ≤ (i : Int) ∧ (i : Int) ≤ 12) ∧ 0 ≤ (j : Int) ∧ (j : Int) ≤ 12 - i from by omega) (s_isWord (d := d) (by omega) (by omega))) ?_
          exact rfl
        exact t_if_eq_f (by omega)
      apply t_B
      · refine x_aload_n rfl ?_
        refine x_gr tg_301 rfl (fx_301_0 hF) ?_
        refine x_bipush ?_
        refine x_iload_n rfl ?_
        refine x_imul ?_
        refine x_iload_n rfl ?_
        refine x_iload_n rfl ?_
        refine x_S2i (by decide) (Nat.le_of_ble_eq_true rfl) (s_word (d := d + 1) (a := i) (b := j) rfl rfl (by omega) (by omega)) ?_
        refine x_iadd ?_
        refine x_ialdv (Or.inl tg_302) (ln_302 L) (by omega) (show _ = I 302 (91 * s + pl i j) from congrArg (I 302) (by omega)) ?_
        refine x_S1i (by decide) (Nat.le_of_ble_eq_true rfl) (s_tell (d := d + 1) (v := I 302 (91 * s + pl i j)) (by omega)) ?_
        exact rfl
      exact t_goto
    · decide
  apply t_B
  · exact rfl
  exact t_ireq (Or.inl rfl) rfl rfl
set_option maxRecDepth 10000 in
theorem s_order_ok {d L : Nat} {I : Nat → Nat → Int} {R : Nat → Nat → Option Nat} {u : Int64} (hF : FixR R) (hR : Res I) (hT : Tabs I) (hN : Nr I) {n : Nat} (hn : I 301 2 = n) (h5 : n ≤ 5) {o : Int} (ho : 0 ≤ o ∧ o ≤ 1) : am_run am_tb (d + 3) 168 [vR 301, vI o] (LH L I R u) = some ([vI (I 302 608)], LH L (m_set I n 608 o) R u) := by
  refine run_of tb_X12_order (Nat.le_of_ble_eq_true rfl) ?_
  show ∃ ls', am_ev (am_run am_tb (d + 2)) tX12_order ([vR 301, vI o, vU], [], (LH L I R u)) = some (1, ls', [vI (I 302 608)], LH L (m_set I n 608 o) R u)
  apply Exists.intro
  unfold tX12_order
  apply t_Q
  · apply t_S
    refine x_iload_n rfl ?_
    refine x_iconst ?_
    refine x_iconst ?_
    refine x_S3i (by decide) (Nat.le_of_ble_eq_true rfl) (ret_t ho (s_in (d := d + 1) (by omega) (by omega) (by omega))) ?_
    exact rfl
  apply t_Q
  · apply t_K
    apply t_Qs
    apply t_B
    · exact rfl
    exact t_if_ne_t (by omega)
  apply t_B
  · refine x_aload_n rfl ?_
    refine x_V1v tg_301 (Nat.le_of_ble_eq_true rfl) (s_remembers (d := d + 1) hF hn h5) ?_
    refine x_aload_n rfl ?_
    refine x_gr tg_301 rfl (fx_301_0 hF) ?_
    refine x_sipush ?_
    refine x_iald (Or.inl tg_302) (ln_302 L) (by omega) ?_
    refine x_istore_n rfl ?_
    refine x_aload_n rfl ?_
    refine x_gr tg_301 rfl (fx_301_0 hF) ?_
    refine x_sipush ?_
    refine x_iload_n rfl ?_
    refine x_iast tg_302 (ln_302 L) (by omega) ?_
    refine x_iload_n rfl ?_
    exact rfl
  exact t_ireq (Or.inl rfl) rfl rfl
set_option maxRecDepth 10000 in
theorem s_puts_ok {d L : Nat} {I : Nat → Nat → Int} {R : Nat → Nat → Option Nat} {u : Int64} (hF : FixR R) (hR : Res I) (hT : Tabs I) (hN : Nr I) {n : Nat} (hn : I 301 2 = n) (h5 : n ≤ 5) {f m : Nat} {c : Int} (hf : f < 2) (hm : m ≤ 30) (hc : inR c) : am_run am_tb (d + 3) 171 [vR 301, vI f, vI m, vI c] (LH L I R u) = some ([vI (tl (I 302 (546 + 31 * f + m)))], LH L (m_set I n (546 + 31 * f + m) (c % 10007)) R u) := by
  refine run_of tb_X12_puts (Nat.le_of_ble_eq_true rfl) ?_
  show ∃ ls', am_ev (am_run am_tb (d + 2)) tX12_puts ([vR 301, vI f, vI m, vI c, vU], [], (LH L I R u)) = some (1, ls', [vI (tl (I 302 (546 + 31 * f + m)))], LH L (m_set I n (546 + 31 * f + m) (c % 10007)) R u)
  have hv := hN.1 (546 + 31 * f + m) (by omega)
  have e : (546 + 31 * (f : Int) + (m : Int)).toNat = 546 + 31 * f + m := by omega
  apply Exists.intro
  unfold tX12_puts
  apply t_Q
  · apply t_S
    refine x_iload_n rfl ?_
    refine x_S1i (by decide) (Nat.le_of_ble_eq_true rfl) (ret_t (show 0 ≤ (f : Int) ∧ (f : Int) ≤ 1 from by omega) (s_isPolynomial (d := d) (by omega))) ?_
    exact rfl
  apply t_Q
  · apply t_K
    apply t_Qs
    apply t_Ks
    · apply t_Q
      · apply t_B
        · exact rfl
        exact t_if_eq_f (by omega)
      apply t_B
      · refine x_iload_n rfl ?_
        refine x_iconst ?_
        refine x_bipush ?_
        refine x_S3i (by decide) (Nat.le_of_ble_eq_true rfl) (ret_t (show 0 ≤ (m : Int) ∧ (m : Int) ≤ 30 from by omega) (s_in (d := d + 1) (by omega) (by omega) (by omega))) ?_
        exact rfl
      exact t_if_ne_t (by omega)
    · decide
  apply t_B
  · refine x_aload_n rfl ?_
    refine x_V1v tg_301 (Nat.le_of_ble_eq_true rfl) (s_remembers (d := d + 1) hF hn h5) ?_
    refine x_aload_n rfl ?_
    refine x_gr tg_301 rfl (fx_301_0 hF) ?_
    refine x_iload_n rfl ?_
    refine x_iload_n rfl ?_
    refine x_S2i (by decide) (Nat.le_of_ble_eq_true rfl) (s_rateAt (d := d + 1)) ?_
    refine x_ialdv (Or.inl tg_302) (ln_302 L) (by omega) (show _ = I 302 (546 + 31 * f + m) from congrArg (I 302) (by omega)) ?_
    refine x_istore rfl ?_
    refine x_aload_n rfl ?_
    refine x_gr tg_301 rfl (fx_301_0 hF) ?_
    refine x_iload_n rfl ?_
    refine x_iload_n rfl ?_
    refine x_S2i (by decide) (Nat.le_of_ble_eq_true rfl) (s_rateAt (d := d + 1)) ?_
    refine x_iload_n rfl ?_
    refine x_S1i (by decide) (Nat.le_of_ble_eq_true rfl) (s_restOf (d := d + 1) hc) ?_
    refine x_iast tg_302 (ln_302 L) (by omega) ?_
    refine x_iload rfl ?_
    refine x_S1i (by decide) (Nat.le_of_ble_eq_true rfl) (s_tell (d := d + 1) (v := I 302 (546 + 31 * f + m)) (by omega)) ?_
    exact rfl
  exact t_ireq (Or.inl rfl) rfl (LH_c (by rw [e]; rfl))
set_option maxRecDepth 10000 in
theorem s_rate_ok {d L : Nat} {I : Nat → Nat → Int} {R : Nat → Nat → Option Nat} {u : Int64} (hF : FixR R) (hR : Res I) (hT : Tabs I) (hN : Nr I) {n : Nat} (hn : I 301 2 = n) (h5 : n ≤ 5) {f m : Nat} (hf : f < 2) (hm : m ≤ 30) : am_run am_tb (d + 3) 172 [vR 301, vI f, vI m] (LH L I R u) = some ([vI (tl (I 302 (546 + 31 * f + m)))], LH L I R u) := by
  refine run_of tb_X12_rate (Nat.le_of_ble_eq_true rfl) ?_
  show ∃ ls', am_ev (am_run am_tb (d + 2)) tX12_rate ([vR 301, vI f, vI m], [], (LH L I R u)) = some (1, ls', [vI (tl (I 302 (546 + 31 * f + m)))], LH L I R u)
  have hv := hN.1 (546 + 31 * f + m) (by omega)
  apply Exists.intro
  unfold tX12_rate
  apply t_Q
  · apply t_S
    refine x_iload_n rfl ?_
    refine x_S1i (by decide) (Nat.le_of_ble_eq_true rfl) (ret_t (show 0 ≤ (f : Int) ∧ (f : Int) ≤ 1 from by omega) (s_isPolynomial (d := d) (by omega))) ?_
    exact rfl
  apply t_Q
  · apply t_K
    apply t_Qs
    apply t_Ks
    · apply t_Q
      · apply t_B
        · exact rfl
        exact t_if_eq_f (by omega)
      apply t_Q
      · apply t_B
        · refine x_iload_n rfl ?_
          refine x_iconst ?_
          refine x_bipush ?_
          refine x_S3i (by decide) (Nat.le_of_ble_eq_true rfl) (ret_t (show 0 ≤ (m : Int) ∧ (m : Int) ≤ 30 from by omega) (s_in (d := d + 1) (by omega) (by omega) (by omega))) ?_
          exact rfl
        exact t_if_eq_f (by omega)
      apply t_B
      · refine x_aload_n rfl ?_
        refine x_gr tg_301 rfl (fx_301_0 hF) ?_
        refine x_iload_n rfl ?_
        refine x_iload_n rfl ?_
        refine x_S2i (by decide) (Nat.le_of_ble_eq_true rfl) (s_rateAt (d := d + 1)) ?_
        refine x_ialdv (Or.inl tg_302) (ln_302 L) (by omega) (show _ = I 302 (546 + 31 * f + m) from congrArg (I 302) (by omega)) ?_
        refine x_S1i (by decide) (Nat.le_of_ble_eq_true rfl) (s_tell (d := d + 1) (v := I 302 (546 + 31 * f + m)) (by omega)) ?_
        exact rfl
      exact t_goto
    · decide
  apply t_B
  · exact rfl
  exact t_ireq (Or.inl rfl) rfl rfl
set_option maxRecDepth 10000 in
theorem s_sums_ok {d L : Nat} {I : Nat → Nat → Int} {R : Nat → Nat → Option Nat} {u : Int64} (hF : FixR R) (hR : Res I) (hT : Tabs I) (hN : Nr I) {n : Nat} (hn : I 301 2 = n) (h5 : n ≤ 5) {s t w : Nat} {a b : Int} (hs : s < 6) (ht : t < 6) (hw : w < 6) (ha : inR a) (hb : inR b) : am_run am_tb (d + 4) 159 [vR 301, vI s, vI t, vI a, vI w, vI b] (LH L I R u) = some ([vI (cnt (mixF (a % 10007) (fe I t) (b % 10007) (fe I w)) 496 : Nat)], LH L (m_put (m_rem (sro (two I t w) 25 (mixF (a % 10007) (fe I t) (b % 10007) (fe I w))) n) s 25) R u) := by
  refine run_of tb_X12_sums (Nat.le_of_ble_eq_true rfl) ?_
  show ∃ ls', am_ev (am_run am_tb (d + 3)) tX12_sums ([vR 301, vI s, vI t, vI a, vI w, vI b], [], (LH L I R u)) = some (1, ls', [vI (cnt (mixF (a % 10007) (fe I t) (b % 10007) (fe I w)) 496 : Nat)], LH L (m_put (m_rem (sro (two I t w) 25 (mixF (a % 10007) (fe I t) (b % 10007) (fe I w))) n) s 25) R u)
  have hA := fun k hk => two_24 (I := I) (t := t) (w := w) k hk
  have hB := fun k hk => two_26 (I := I) (t := t) (w := w) k hk
  have hFr := two_F hR hN ht hw
  have hR2 := hFr.2.2.2.2
  have hT2 := two_T (t := t) (w := w) hT
  have hm := s_mixes (d := d + 1) (L := L) (u := u) hF (I := two I t w) (t := 24) (w := 26) (to := 25) (a := a % 10007) (b := b % 10007) hR2 (by omega) (by omega) (by decide) (by decide) (by decide) (by decide) (by decide)
  rw [show sro (two I t w) 25 (mixF (a % 10007) (gro (two I t w) 24) (b % 10007) (gro (two I t w) 26)) = sro (two I t w) 25 (mixF (a % 10007) (fe I t) (b % 10007) (fe I w)) from sro_c (fun k hk => by unfold mixF; rw [hA k hk, hB k hk])] at hm
  apply Exists.intro
  unfold tX12_sums
  apply t_Q
  · apply t_S
    refine x_iload_n rfl ?_
    refine x_S1i (by decide) (Nat.le_of_ble_eq_true rfl) (ret_t (show 0 ≤ (s : Int) ∧ (s : Int) ≤ 5 from by omega) (s_isOperator (d := d + 1) (by omega))) ?_
    exact rfl
  apply t_Q
  · apply t_K
    apply t_Qs
    apply t_Ks
    · apply t_Q
      · apply t_B
        · exact rfl
        exact t_if_eq_f (by omega)
      apply t_Q
      · apply t_B
        · refine x_iload_n rfl ?_
          refine x_S1i (by decide) (Nat.le_of_ble_eq_true rfl) (ret_t (show 0 ≤ (t : Int) ∧ (t : Int) ≤ 5 from by omega) (s_isOperator (d := d + 1) (by omega))) ?_
          exact rfl
        exact t_if_eq_f (by omega)
      apply t_B
      · refine x_iload rfl ?_
        refine x_S1i (by decide) (Nat.le_of_ble_eq_true rfl) (ret_t (show 0 ≤ (w : Int) ∧ (w : Int) ≤ 5 from by omega) (s_isOperator (d := d + 1) (by omega))) ?_
        exact rfl
      exact t_if_ne_t (by omega)
    · decide
  apply t_B
  · refine x_aload_n rfl ?_
    refine x_iload_n rfl ?_
    refine x_bipush ?_
    refine x_V3v tg_301 (Nat.le_of_ble_eq_true rfl) (s_fetches (d := d + 1) hF (s := t) (row := 24) ht (by decide)) ?_
    refine x_aload_n rfl ?_
    refine x_iload rfl ?_
    refine x_bipush ?_
    refine x_V3v tg_301 (Nat.le_of_ble_eq_true rfl) ((s_fetches (d := d + 1) hF (s := w) (row := 26) hw (by decide)).trans (show _ = some ([], LH L (two I t w) R u) from by rw [fe_s]; rfl)) ?_
    refine x_aload_n rfl ?_
    refine x_bipush ?_
    refine x_iload_n rfl ?_
    refine x_S1i (by decide) (Nat.le_of_ble_eq_true rfl) (s_restOf (d := d + 2) ha) ?_
    refine x_bipush ?_
    refine x_iload rfl ?_
    refine x_S1i (by decide) (Nat.le_of_ble_eq_true rfl) (s_restOf (d := d + 2) hb) ?_
    refine x_bipush ?_
    refine x_V6v tg_301 (Nat.le_of_ble_eq_true rfl) (hm) ?_
    refine x_aload_n rfl ?_
    refine x_iload_n rfl ?_
    refine x_bipush ?_
    refine x_V3i tg_301 (Nat.le_of_ble_eq_true rfl) (s_keepF (d := d) hF (Res_s hR2 mixF_b) (fun k hk => gro_s hk) (by rw [sro_o (by decide), two_n]; exact hn) h5 hs (by decide)) ?_
    exact rfl
  exact t_ireq (Or.inl rfl) rfl rfl
set_option maxRecDepth 10000 in
theorem s_times_full {d L : Nat} {I : Nat → Nat → Int} {R : Nat → Nat → Option Nat} {u : Int64} (hF : FixR R) (hR : Res I) (hT : Tabs I) (hN : Nr I) {n : Nat} (hn : I 301 2 = n) (h5 : n ≤ 5) {s t w : Nat} (hs : s < 6) (ht : t < 6) (hw : w < 6) (hc : 0 ≤ dgr (fe I t) ∧ 0 ≤ dgr (fe I w) ∧ 12 < dgr (fe I t) + dgr (fe I w)) : am_run am_tb (d + 5) 160 [vR 301, vI s, vI t, vI w] (LH L I R u) = some ([vI (-20004)], LH L (rf (two I t w) 2) R u) := by
  refine run_of tb_X12_times (Nat.le_of_ble_eq_true rfl) ?_
  show ∃ ls', am_ev (am_run am_tb (d + 4)) tX12_times ([vR 301, vI s, vI t, vI w], [], (LH L I R u)) = some (1, ls', [vI (-20004)], LH L (rf (two I t w) 2) R u)
  have hA := fun k hk => two_24 (I := I) (t := t) (w := w) k hk
  have hB := fun k hk => two_26 (I := I) (t := t) (w := w) k hk
  have hFr := two_F hR hN ht hw
  have hR2 := hFr.2.2.2.2
  have hT2 := two_T (t := t) (w := w) hT
  apply Exists.intro
  unfold tX12_times
  apply t_Q
  · apply t_S
    refine x_iload_n rfl ?_
    refine x_S1i (by decide) (Nat.le_of_ble_eq_true rfl) (ret_t (show 0 ≤ (s : Int) ∧ (s : Int) ≤ 5 from by omega) (s_isOperator (d := d + 2) (by omega))) ?_
    exact rfl
  apply t_Q
  · apply t_K
    apply t_Qs
    apply t_Ks
    · apply t_Q
      · apply t_B
        · exact rfl
        exact t_if_eq_f (by omega)
      apply t_Q
      · apply t_B
        · refine x_iload_n rfl ?_
          refine x_S1i (by decide) (Nat.le_of_ble_eq_true rfl) (ret_t (show 0 ≤ (t : Int) ∧ (t : Int) ≤ 5 from by omega) (s_isOperator (d := d + 2) (by omega))) ?_
          exact rfl
        exact t_if_eq_f (by omega)
      apply t_B
      · refine x_iload_n rfl ?_
        refine x_S1i (by decide) (Nat.le_of_ble_eq_true rfl) (ret_t (show 0 ≤ (w : Int) ∧ (w : Int) ≤ 5 from by omega) (s_isOperator (d := d + 2) (by omega))) ?_
        exact rfl
      exact t_if_ne_t (by omega)
    · decide
  apply t_Q
  · apply t_S
    refine x_aload_n rfl ?_
    refine x_iload_n rfl ?_
    refine x_bipush ?_
    refine x_V3v tg_301 (Nat.le_of_ble_eq_true rfl) (s_fetches (d := d + 2) hF (s := t) (row := 24) ht (by decide)) ?_
    refine x_aload_n rfl ?_
    refine x_iload_n rfl ?_
    refine x_bipush ?_
    refine x_V3v tg_301 (Nat.le_of_ble_eq_true rfl) ((s_fetches (d := d + 2) hF (s := w) (row := 26) hw (by decide)).trans (show _ = some ([], LH L (two I t w) R u) from by rw [fe_s]; rfl)) ?_
    refine x_aload_n rfl ?_
    refine x_bipush ?_
    refine x_bipush ?_
    refine x_V3i tg_301 (Nat.le_of_ble_eq_true rfl) (ret_t hc ((s_isTooMuch (d := d + 1) hF (I := two I t w) hR2 hT2 (t := 24) (w := 26) (by decide) (by decide)).trans (by rw [dgr_c hA, dgr_c hB]))) ?_
    exact rfl
  apply t_Qs
  apply t_Ks
  · apply t_Q
    · apply t_B
      · exact rfl
      exact t_if_eq_f (by omega)
    apply t_B
    · refine x_aload_n rfl ?_
      refine x_V1i tg_301 (Nat.le_of_ble_eq_true rfl) (s_full (d := d + 3) hF) ?_
      exact rfl
    exact t_ireq (Or.inl rfl) rfl rfl
  · decide
set_option maxRecDepth 10000 in
theorem s_times_ok {d L : Nat} {I : Nat → Nat → Int} {R : Nat → Nat → Option Nat} {u : Int64} (hF : FixR R) (hR : Res I) (hT : Tabs I) (hN : Nr I) {n : Nat} (hn : I 301 2 = n) (h5 : n ≤ 5) {s t w : Nat} (hs : s < 6) (ht : t < 6) (hw : w < 6) (hc : ¬ (0 ≤ dgr (fe I t) ∧ 0 ≤ dgr (fe I w) ∧ 12 < dgr (fe I t) + dgr (fe I w))) : am_run am_tb (d + 5) 160 [vR 301, vI s, vI t, vI w] (LH L I R u) = some ([vI (cnt (mul (fe I t) (fe I w)) 496 : Nat)], LH L (m_put (m_rem (sro (two I t w) 25 (mul (fe I t) (fe I w))) n) s 25) R u) := by
  refine run_of tb_X12_times (Nat.le_of_ble_eq_true rfl) ?_
  show ∃ ls', am_ev (am_run am_tb (d + 4)) tX12_times ([vR 301, vI s, vI t, vI w], [], (LH L I R u)) = some (1, ls', [vI (cnt (mul (fe I t) (fe I w)) 496 : Nat)], LH L (m_put (m_rem (sro (two I t w) 25 (mul (fe I t) (fe I w))) n) s 25) R u)
  have hA := fun k hk => two_24 (I := I) (t := t) (w := w) k hk
  have hB := fun k hk => two_26 (I := I) (t := t) (w := w) k hk
  have hFr := two_F hR hN ht hw
  have hR2 := hFr.2.2.2.2
  have hT2 := two_T (t := t) (w := w) hT
  have b1 := dgr_b (fe I t)
  have b2 := dgr_b (fe I w)
  have hm := s_mul (d := d) (L := L) (u := u) hF (I := two I t w) (t := 24) (w := 26) (to := 25) hR2 hT2 (by rw [dgr_c hA, dgr_c hB]; omega) (by decide) (by decide) (by decide) (by decide) (by decide)
  rw [mul_c hA hB] at hm
  apply Exists.intro
  unfold tX12_times
  apply t_Q
  · apply t_S
    refine x_iload_n rfl ?_
    refine x_S1i (by decide) (Nat.le_of_ble_eq_true rfl) (ret_t (show 0 ≤ (s : Int) ∧ (s : Int) ≤ 5 from by omega) (s_isOperator (d := d + 2) (by omega))) ?_
    exact rfl
  apply t_Q
  · apply t_K
    apply t_Qs
    apply t_Ks
    · apply t_Q
      · apply t_B
        · exact rfl
        exact t_if_eq_f (by omega)
      apply t_Q
      · apply t_B
        · refine x_iload_n rfl ?_
          refine x_S1i (by decide) (Nat.le_of_ble_eq_true rfl) (ret_t (show 0 ≤ (t : Int) ∧ (t : Int) ≤ 5 from by omega) (s_isOperator (d := d + 2) (by omega))) ?_
          exact rfl
        exact t_if_eq_f (by omega)
      apply t_B
      · refine x_iload_n rfl ?_
        refine x_S1i (by decide) (Nat.le_of_ble_eq_true rfl) (ret_t (show 0 ≤ (w : Int) ∧ (w : Int) ≤ 5 from by omega) (s_isOperator (d := d + 2) (by omega))) ?_
        exact rfl
      exact t_if_ne_t (by omega)
    · decide
  apply t_Q
  · apply t_S
    refine x_aload_n rfl ?_
    refine x_iload_n rfl ?_
    refine x_bipush ?_
    refine x_V3v tg_301 (Nat.le_of_ble_eq_true rfl) (s_fetches (d := d + 2) hF (s := t) (row := 24) ht (by decide)) ?_
    refine x_aload_n rfl ?_
    refine x_iload_n rfl ?_
    refine x_bipush ?_
    refine x_V3v tg_301 (Nat.le_of_ble_eq_true rfl) ((s_fetches (d := d + 2) hF (s := w) (row := 26) hw (by decide)).trans (show _ = some ([], LH L (two I t w) R u) from by rw [fe_s]; rfl)) ?_
    refine x_aload_n rfl ?_
    refine x_bipush ?_
    refine x_bipush ?_
    refine x_V3i tg_301 (Nat.le_of_ble_eq_true rfl) (ret_f hc ((s_isTooMuch (d := d + 1) hF (I := two I t w) hR2 hT2 (t := 24) (w := 26) (by decide) (by decide)).trans (by rw [dgr_c hA, dgr_c hB]))) ?_
    exact rfl
  apply t_Q
  · apply t_K
    apply t_Qs
    apply t_B
    · exact rfl
    exact t_if_eq_t (by omega)
  apply t_B
  · refine x_aload_n rfl ?_
    refine x_bipush ?_
    refine x_bipush ?_
    refine x_bipush ?_
    refine x_V4v tg_301 (Nat.le_of_ble_eq_true rfl) (hm) ?_
    refine x_aload_n rfl ?_
    refine x_iload_n rfl ?_
    refine x_bipush ?_
    refine x_V3i tg_301 (Nat.le_of_ble_eq_true rfl) (s_keepF (d := d + 1) hF (Res_s hR2 mul_r) (fun k hk => gro_s hk) (by rw [sro_o (by decide), two_n]; exact hn) h5 hs (by decide)) ?_
    exact rfl
  exact t_ireq (Or.inl rfl) rfl rfl
def brF (f g : Nat → Int) : Nat → Int := mixF 1 (mul f g) 10006 (mul g f)
def brI (I : Nat → Nat → Int) (t w : Nat) : Nat → Nat → Int := sro (sro (sro (two I t w) 25 (mul (fe I t) (fe I w))) 27 (mul (fe I w) (fe I t))) 28 (brF (fe I t) (fe I w))
set_option maxRecDepth 10000 in
theorem s_bracket_full {d L : Nat} {I : Nat → Nat → Int} {R : Nat → Nat → Option Nat} {u : Int64} (hF : FixR R) (hR : Res I) (hT : Tabs I) (hN : Nr I) {n : Nat} (hn : I 301 2 = n) (h5 : n ≤ 5) {s t w : Nat} (hs : s < 6) (ht : t < 6) (hw : w < 6) (hc : 0 ≤ dgr (fe I t) ∧ 0 ≤ dgr (fe I w) ∧ 12 < dgr (fe I t) + dgr (fe I w)) : am_run am_tb (d + 5) 161 [vR 301, vI s, vI t, vI w] (LH L I R u) = some ([vI (-20004)], LH L (rf (two I t w) 2) R u) := by
  refine run_of tb_X12_bracket (Nat.le_of_ble_eq_true rfl) ?_
  show ∃ ls', am_ev (am_run am_tb (d + 4)) tX12_bracket ([vR 301, vI s, vI t, vI w], [], (LH L I R u)) = some (1, ls', [vI (-20004)], LH L (rf (two I t w) 2) R u)
  have hA := fun k hk => two_24 (I := I) (t := t) (w := w) k hk
  have hB := fun k hk => two_26 (I := I) (t := t) (w := w) k hk
  have hFr := two_F hR hN ht hw
  have hR2 := hFr.2.2.2.2
  have hT2 := two_T (t := t) (w := w) hT
  apply Exists.intro
  unfold tX12_bracket
  apply t_Q
  · apply t_S
    refine x_iload_n rfl ?_
    refine x_S1i (by decide) (Nat.le_of_ble_eq_true rfl) (ret_t (show 0 ≤ (s : Int) ∧ (s : Int) ≤ 5 from by omega) (s_isOperator (d := d + 2) (by omega))) ?_
    exact rfl
  apply t_Q
  · apply t_K
    apply t_Qs
    apply t_Ks
    · apply t_Q
      · apply t_B
        · exact rfl
        exact t_if_eq_f (by omega)
      apply t_Q
      · apply t_B
        · refine x_iload_n rfl ?_
          refine x_S1i (by decide) (Nat.le_of_ble_eq_true rfl) (ret_t (show 0 ≤ (t : Int) ∧ (t : Int) ≤ 5 from by omega) (s_isOperator (d := d + 2) (by omega))) ?_
          exact rfl
        exact t_if_eq_f (by omega)
      apply t_B
      · refine x_iload_n rfl ?_
        refine x_S1i (by decide) (Nat.le_of_ble_eq_true rfl) (ret_t (show 0 ≤ (w : Int) ∧ (w : Int) ≤ 5 from by omega) (s_isOperator (d := d + 2) (by omega))) ?_
        exact rfl
      exact t_if_ne_t (by omega)
    · decide
  apply t_Q
  · apply t_S
    refine x_aload_n rfl ?_
    refine x_iload_n rfl ?_
    refine x_bipush ?_
    refine x_V3v tg_301 (Nat.le_of_ble_eq_true rfl) (s_fetches (d := d + 2) hF (s := t) (row := 24) ht (by decide)) ?_
    refine x_aload_n rfl ?_
    refine x_iload_n rfl ?_
    refine x_bipush ?_
    refine x_V3v tg_301 (Nat.le_of_ble_eq_true rfl) ((s_fetches (d := d + 2) hF (s := w) (row := 26) hw (by decide)).trans (show _ = some ([], LH L (two I t w) R u) from by rw [fe_s]; rfl)) ?_
    refine x_aload_n rfl ?_
    refine x_bipush ?_
    refine x_bipush ?_
    refine x_V3i tg_301 (Nat.le_of_ble_eq_true rfl) (ret_t hc ((s_isTooMuch (d := d + 1) hF (I := two I t w) hR2 hT2 (t := 24) (w := 26) (by decide) (by decide)).trans (by rw [dgr_c hA, dgr_c hB]))) ?_
    exact rfl
  apply t_Qs
  apply t_Ks
  · apply t_Q
    · apply t_B
      · exact rfl
      exact t_if_eq_f (by omega)
    apply t_B
    · refine x_aload_n rfl ?_
      refine x_V1i tg_301 (Nat.le_of_ble_eq_true rfl) (s_full (d := d + 3) hF) ?_
      exact rfl
    exact t_ireq (Or.inl rfl) rfl rfl
  · decide
set_option maxRecDepth 10000 in
theorem s_bracket_ok {d L : Nat} {I : Nat → Nat → Int} {R : Nat → Nat → Option Nat} {u : Int64} (hF : FixR R) (hR : Res I) (hT : Tabs I) (hN : Nr I) {n : Nat} (hn : I 301 2 = n) (h5 : n ≤ 5) {s t w : Nat} (hs : s < 6) (ht : t < 6) (hw : w < 6) (hc : ¬ (0 ≤ dgr (fe I t) ∧ 0 ≤ dgr (fe I w) ∧ 12 < dgr (fe I t) + dgr (fe I w))) : am_run am_tb (d + 5) 161 [vR 301, vI s, vI t, vI w] (LH L I R u) = some ([vI (cnt (brF (fe I t) (fe I w)) 496 : Nat)], LH L (m_put (m_rem (brI I t w) n) s 28) R u) := by
  refine run_of tb_X12_bracket (Nat.le_of_ble_eq_true rfl) ?_
  show ∃ ls', am_ev (am_run am_tb (d + 4)) tX12_bracket ([vR 301, vI s, vI t, vI w], [], (LH L I R u)) = some (1, ls', [vI (cnt (brF (fe I t) (fe I w)) 496 : Nat)], LH L (m_put (m_rem (brI I t w) n) s 28) R u)
  have hA := fun k hk => two_24 (I := I) (t := t) (w := w) k hk
  have hB := fun k hk => two_26 (I := I) (t := t) (w := w) k hk
  have hFr := two_F hR hN ht hw
  have hR2 := hFr.2.2.2.2
  have hT2 := two_T (t := t) (w := w) hT
  have b1 := dgr_b (fe I t)
  have b2 := dgr_b (fe I w)
  have hm := s_mul (d := d) (L := L) (u := u) hF (I := two I t w) (t := 24) (w := 26) (to := 25) hR2 hT2 (by rw [dgr_c hA, dgr_c hB]; omega) (by decide) (by decide) (by decide) (by decide) (by decide)
  rw [mul_c hA hB] at hm
  have hA3 : ∀ k, k < 496 → gro (sro (two I t w) 25 (mul (fe I t) (fe I w))) 24 k = fe I t k := fun k hk => by rw [gro_n hk (by decide), hA k hk]
  have hB3 : ∀ k, k < 496 → gro (sro (two I t w) 25 (mul (fe I t) (fe I w))) 26 k = fe I w k := fun k hk => by rw [gro_n hk (by decide), hB k hk]
  have hR3 : Res (sro (two I t w) 25 (mul (fe I t) (fe I w))) := Res_s hR2 mul_r
  have hm2 := s_mul (d := d) (L := L) (u := u) hF (I := sro (two I t w) 25 (mul (fe I t) (fe I w))) (t := 26) (w := 24) (to := 27) hR3 (Tabs_s hT2) (by rw [dgr_c hA3, dgr_c hB3]; omega) (by decide) (by decide) (by decide) (by decide) (by decide)
  rw [mul_c hB3 hA3] at hm2
  have hR4 : Res (sro (sro (two I t w) 25 (mul (fe I t) (fe I w))) 27 (mul (fe I w) (fe I t))) := Res_s hR3 mul_r
  have hx := s_mixes (d := d + 2) (L := L) (u := u) hF (I := sro (sro (two I t w) 25 (mul (fe I t) (fe I w))) 27 (mul (fe I w) (fe I t))) (t := 25) (w := 27) (to := 28) (a := 1) (b := 10006) hR4 (by omega) (by omega) (by decide) (by decide) (by decide) (by decide) (by decide)
  rw [show sro (sro (sro (two I t w) 25 (mul (fe I t) (fe I w))) 27 (mul (fe I w) (fe I t))) 28 (mixF 1 (gro (sro (sro (two I t w) 25 (mul (fe I t) (fe I w))) 27 (mul (fe I w) (fe I t))) 25) 10006 (gro (sro (sro (two I t w) 25 (mul (fe I t) (fe I w))) 27 (mul (fe I w) (fe I t))) 27)) = brI I t w from sro_c (fun k hk => by unfold brF mixF; rw [gro_n hk (by decide), gro_s hk, gro_s hk])] at hx
  apply Exists.intro
  unfold tX12_bracket
  apply t_Q
  · apply t_S
    refine x_iload_n rfl ?_
    refine x_S1i (by decide) (Nat.le_of_ble_eq_true rfl) (ret_t (show 0 ≤ (s : Int) ∧ (s : Int) ≤ 5 from by omega) (s_isOperator (d := d + 2) (by omega))) ?_
    exact rfl
  apply t_Q
  · apply t_K
    apply t_Qs
    apply t_Ks
    · apply t_Q
      · apply t_B
        · exact rfl
        exact t_if_eq_f (by omega)
      apply t_Q
      · apply t_B
        · refine x_iload_n rfl ?_
          refine x_S1i (by decide) (Nat.le_of_ble_eq_true rfl) (ret_t (show 0 ≤ (t : Int) ∧ (t : Int) ≤ 5 from by omega) (s_isOperator (d := d + 2) (by omega))) ?_
          exact rfl
        exact t_if_eq_f (by omega)
      apply t_B
      · refine x_iload_n rfl ?_
        refine x_S1i (by decide) (Nat.le_of_ble_eq_true rfl) (ret_t (show 0 ≤ (w : Int) ∧ (w : Int) ≤ 5 from by omega) (s_isOperator (d := d + 2) (by omega))) ?_
        exact rfl
      exact t_if_ne_t (by omega)
    · decide
  apply t_Q
  · apply t_S
    refine x_aload_n rfl ?_
    refine x_iload_n rfl ?_
    refine x_bipush ?_
    refine x_V3v tg_301 (Nat.le_of_ble_eq_true rfl) (s_fetches (d := d + 2) hF (s := t) (row := 24) ht (by decide)) ?_
    refine x_aload_n rfl ?_
    refine x_iload_n rfl ?_
    refine x_bipush ?_
    refine x_V3v tg_301 (Nat.le_of_ble_eq_true rfl) ((s_fetches (d := d + 2) hF (s := w) (row := 26) hw (by decide)).trans (show _ = some ([], LH L (two I t w) R u) from by rw [fe_s]; rfl)) ?_
    refine x_aload_n rfl ?_
    refine x_bipush ?_
    refine x_bipush ?_
    refine x_V3i tg_301 (Nat.le_of_ble_eq_true rfl) (ret_f hc ((s_isTooMuch (d := d + 1) hF (I := two I t w) hR2 hT2 (t := 24) (w := 26) (by decide) (by decide)).trans (by rw [dgr_c hA, dgr_c hB]))) ?_
    exact rfl
  apply t_Q
  · apply t_K
    apply t_Qs
    apply t_B
    · exact rfl
    exact t_if_eq_t (by omega)
  apply t_B
  · refine x_aload_n rfl ?_
    refine x_bipush ?_
    refine x_bipush ?_
    refine x_bipush ?_
    refine x_V4v tg_301 (Nat.le_of_ble_eq_true rfl) (hm) ?_
    refine x_aload_n rfl ?_
    refine x_bipush ?_
    refine x_bipush ?_
    refine x_bipush ?_
    refine x_V4v tg_301 (Nat.le_of_ble_eq_true rfl) (hm2) ?_
    refine x_aload_n rfl ?_
    refine x_bipush ?_
    refine x_iconst ?_
    refine x_bipush ?_
    refine x_sipush ?_
    refine x_bipush ?_
    refine x_V6v tg_301 (Nat.le_of_ble_eq_true rfl) (hx) ?_
    refine x_aload_n rfl ?_
    refine x_iload_n rfl ?_
    refine x_bipush ?_
    refine x_V3i tg_301 (Nat.le_of_ble_eq_true rfl) (s_keepF (d := d + 1) (I := brI I t w) hF (Res_s hR4 mixF_b) (fun k hk => gro_s hk) (by unfold brI; rw [sro_o (by decide), sro_o (by decide), sro_o (by decide), two_n]; exact hn) h5 hs (by decide)) ?_
    exact rfl
  exact t_ireq (Or.inl rfl) rfl rfl
theorem powR_c {g h : Nat → Int} (e : ∀ k, k < 496 → g k = h k) (n : Nat) : powR g n = powR h n := by
  induction n with
  | zero => rfl
  | succ n ih => show mul (powR g n) g = mul (powR h n) h; rw [ih]; exact mul_c (fun _ _ => rfl) e
theorem raI_c {I : Nat → Nat → Int} {g h : Nat → Int} (e : ∀ k, k < 496 → g k = h k) (n : Nat) : raI I g n = raI I h n := by
  unfold raI
  rw [powR_c e, sro_c e]
theorem raI_n {I : Nat → Nat → Int} {g : Nat → Int} {n : Nat} : raI I g n 301 = I 301 := by
  unfold raI; rw [sro_o (by decide), sro_o (by decide), sro_o (by decide)]
set_option maxRecDepth 10000 in
theorem s_power_full {d L : Nat} {I : Nat → Nat → Int} {R : Nat → Nat → Option Nat} {u : Int64} (hF : FixR R) (hR : Res I) (hT : Tabs I) (hN : Nr I) {n : Nat} (hn : I 301 2 = n) (h5 : n ≤ 5) {s t m : Nat} (hs : s < 6) (ht : t < 6) (hm : m ≤ 12) (hc : 12 < (m : Int) * dgr (fe I t)) : am_run am_tb (d + 6) 162 [vR 301, vI s, vI t, vI m] (LH L I R u) = some ([vI (-20004)], LH L (rf (sro I 27 (fe I t)) 2) R u) := by
  refine run_of tb_X12_power (Nat.le_of_ble_eq_true rfl) ?_
  show ∃ ls', am_ev (am_run am_tb (d + 5)) tX12_power ([vR 301, vI s, vI t, vI m], [], (LH L I R u)) = some (1, ls', [vI (-20004)], LH L (rf (sro I 27 (fe I t)) 2) R u)
  have hA : ∀ k, k < 496 → gro (sro I 27 (fe I t)) 27 k = fe I t k := fun k hk => gro_s hk
  have hR2 : Res (sro I 27 (fe I t)) := Res_s hR (fe_b hN ht)
  have hT2 : Tabs (sro I 27 (fe I t)) := Tabs_s hT
  apply Exists.intro
  unfold tX12_power
  apply t_Q
  · apply t_S
    refine x_iload_n rfl ?_
    refine x_S1i (by decide) (Nat.le_of_ble_eq_true rfl) (ret_t (show 0 ≤ (s : Int) ∧ (s : Int) ≤ 5 from by omega) (s_isOperator (d := d + 3) (by omega))) ?_
    exact rfl
  apply t_Q
  · apply t_K
    apply t_Qs
    apply t_Ks
    · apply t_Q
      · apply t_B
        · exact rfl
        exact t_if_eq_f (by omega)
      apply t_Q
      · apply t_B
        · refine x_iload_n rfl ?_
          refine x_S1i (by decide) (Nat.le_of_ble_eq_true rfl) (ret_t (show 0 ≤ (t : Int) ∧ (t : Int) ≤ 5 from by omega) (s_isOperator (d := d + 3) (by omega))) ?_
          exact rfl
        exact t_if_eq_f (by omega)
      apply t_B
      · refine x_iload_n rfl ?_
        refine x_iconst ?_
        refine x_bipush ?_
        refine x_S3i (by decide) (Nat.le_of_ble_eq_true rfl) (ret_t (show 0 ≤ (m : Int) ∧ (m : Int) ≤ 12 from by omega) (s_in (d := d + 4) (by omega) (by omega) (by omega))) ?_
        exact rfl
      exact t_if_ne_t (by omega)
    · decide
  apply t_Q
  · apply t_S
    refine x_aload_n rfl ?_
    refine x_iload_n rfl ?_
    refine x_bipush ?_
    refine x_V3v tg_301 (Nat.le_of_ble_eq_true rfl) (s_fetches (d := d + 3) hF (s := t) (row := 27) ht (by decide)) ?_
    refine x_aload_n rfl ?_
    refine x_bipush ?_
    refine x_iload_n rfl ?_
    refine x_V3i tg_301 (Nat.le_of_ble_eq_true rfl) (ret_t hc ((s_isPowerTooMuch (d := d + 2) hF (I := (sro I 27 (fe I t))) hR2 hT2 (t := 27) (n := m) (by decide) (by omega)).trans (by rw [dgr_c hA]))) ?_
    exact rfl
  apply t_Qs
  apply t_Ks
  · apply t_Q
    · apply t_B
      · exact rfl
      exact t_if_eq_f (by omega)
    apply t_B
    · refine x_aload_n rfl ?_
      refine x_V1i tg_301 (Nat.le_of_ble_eq_true rfl) (s_full (d := d + 4) hF) ?_
      exact rfl
    exact t_ireq (Or.inl rfl) rfl rfl
  · decide
set_option maxRecDepth 10000 in
theorem s_power_ok {d L : Nat} {I : Nat → Nat → Int} {R : Nat → Nat → Option Nat} {u : Int64} (hF : FixR R) (hR : Res I) (hT : Tabs I) (hN : Nr I) {n : Nat} (hn : I 301 2 = n) (h5 : n ≤ 5) {s t m : Nat} (hs : s < 6) (ht : t < 6) (hm : m ≤ 12) (hc : ¬ (12 < (m : Int) * dgr (fe I t))) : am_run am_tb (d + 6) 162 [vR 301, vI s, vI t, vI m] (LH L I R u) = some ([vI (cnt (powR (fe I t) m) 496 : Nat)], LH L (m_put (m_rem (raI (sro I 27 (fe I t)) (fe I t) m) n) s 27) R u) := by
  refine run_of tb_X12_power (Nat.le_of_ble_eq_true rfl) ?_
  show ∃ ls', am_ev (am_run am_tb (d + 5)) tX12_power ([vR 301, vI s, vI t, vI m], [], (LH L I R u)) = some (1, ls', [vI (cnt (powR (fe I t) m) 496 : Nat)], LH L (m_put (m_rem (raI (sro I 27 (fe I t)) (fe I t) m) n) s 27) R u)
  have hA : ∀ k, k < 496 → gro (sro I 27 (fe I t)) 27 k = fe I t k := fun k hk => gro_s hk
  have hR2 : Res (sro I 27 (fe I t)) := Res_s hR (fe_b hN ht)
  have hT2 : Tabs (sro I 27 (fe I t)) := Tabs_s hT
  have hr := s_raises (d := d) (L := L) (u := u) hF hR2 hT2 (n := m) (by omega) (by rw [dgr_c hA]; omega)
  rw [raI_c hA m] at hr
  apply Exists.intro
  unfold tX12_power
  apply t_Q
  · apply t_S
    refine x_iload_n rfl ?_
    refine x_S1i (by decide) (Nat.le_of_ble_eq_true rfl) (ret_t (show 0 ≤ (s : Int) ∧ (s : Int) ≤ 5 from by omega) (s_isOperator (d := d + 3) (by omega))) ?_
    exact rfl
  apply t_Q
  · apply t_K
    apply t_Qs
    apply t_Ks
    · apply t_Q
      · apply t_B
        · exact rfl
        exact t_if_eq_f (by omega)
      apply t_Q
      · apply t_B
        · refine x_iload_n rfl ?_
          refine x_S1i (by decide) (Nat.le_of_ble_eq_true rfl) (ret_t (show 0 ≤ (t : Int) ∧ (t : Int) ≤ 5 from by omega) (s_isOperator (d := d + 3) (by omega))) ?_
          exact rfl
        exact t_if_eq_f (by omega)
      apply t_B
      · refine x_iload_n rfl ?_
        refine x_iconst ?_
        refine x_bipush ?_
        refine x_S3i (by decide) (Nat.le_of_ble_eq_true rfl) (ret_t (show 0 ≤ (m : Int) ∧ (m : Int) ≤ 12 from by omega) (s_in (d := d + 4) (by omega) (by omega) (by omega))) ?_
        exact rfl
      exact t_if_ne_t (by omega)
    · decide
  apply t_Q
  · apply t_S
    refine x_aload_n rfl ?_
    refine x_iload_n rfl ?_
    refine x_bipush ?_
    refine x_V3v tg_301 (Nat.le_of_ble_eq_true rfl) (s_fetches (d := d + 3) hF (s := t) (row := 27) ht (by decide)) ?_
    refine x_aload_n rfl ?_
    refine x_bipush ?_
    refine x_iload_n rfl ?_
    refine x_V3i tg_301 (Nat.le_of_ble_eq_true rfl) (ret_f hc ((s_isPowerTooMuch (d := d + 2) hF (I := (sro I 27 (fe I t))) hR2 hT2 (t := 27) (n := m) (by decide) (by omega)).trans (by rw [dgr_c hA]))) ?_
    exact rfl
  apply t_Q
  · apply t_K
    apply t_Qs
    apply t_B
    · exact rfl
    exact t_if_eq_t (by omega)
  apply t_B
  · refine x_aload_n rfl ?_
    refine x_iload_n rfl ?_
    refine x_V2v tg_301 (Nat.le_of_ble_eq_true rfl) (hr) ?_
    refine x_aload_n rfl ?_
    refine x_iload_n rfl ?_
    refine x_bipush ?_
    refine x_V3i tg_301 (Nat.le_of_ble_eq_true rfl) (s_keepF (d := d + 2) hF (raR hR2 (fe_b hN ht)) (fun k hk => ra27 k hk) (by rw [raI_n, sro_o (by decide)]; exact hn) h5 hs (by decide)) ?_
    exact rfl
  exact t_ireq (Or.inl rfl) rfl rfl
