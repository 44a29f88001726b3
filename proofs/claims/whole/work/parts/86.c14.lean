/-! The class: sets, at, sums, times, bracket, power, reversed, of, order, puts, rate. Written by wip/whole/gen_86.py. -/
/-- an operator of the present state as a row -/
def opc (I : Nat → Nat → Int) (s : Nat) : Nat → Int := cl I (10 + 2 * s)
theorem clD {I : Nat → Nat → Int} {c : Nat} : dgr (cl I c) ≤ 12 := dgr_le (by decide) (fun w hw q => by
  refine cl_z (Nat.not_lt.mp fun h => ?_)
  have := wn_12 h
  omega)
theorem opc_a {I : Nat → Nat → Int} (hS : Sn I) {s : Nat} (hs : s < 6) : resa (opc I s) := cl_a (Sn_op hS hs)
theorem opc_F {I J : Nat → Nat → Int} (h : Fc I J) {s : Nat} (hs : s < 6) : opc J s = opc I s := cl_o (h.1 _ (by unfold Sca; omega) (by omega) (by omega))
theorem sop_au {h : Nat → Int} {s w : Nat} {f : Nat → Int} {v : Int} (hw : w < 91) (hf : ∀ j, j < 91 → f j = h (91 * s + j)) : ∀ j, j < 609 → sopS h s (au f w v) j = au h (91 * s + w) v j := by
  intro j _
  unfold sopS
  by_cases e : j = 91 * s + w
  · rw [e, au_s, if_pos (by omega), show 91 * s + w - 91 * s = w by omega, au_s]
  · rw [au_n _ _ e]
    split
    · rw [au_n _ _ (by omega), hf _ (by omega), show 91 * s + (j - 91 * s) = j by omega]
    · rfl
theorem ev_c {X : Option (List am_V × am_H)} {L : Nat} {J J' : Nat → Nat → Int} {R : Nat → Nat → Option Nat} {u : Int64} {r : List am_V} (h : X = some (r, LH L J R u)) (e : J = J') : X = some (r, LH L J' R u) := by rw [h, e]
set_option maxRecDepth 10000 in
theorem s11_sets_ok {d L : Nat} {I : Nat → Nat → Int} {R : Nat → Nat → Option Nat} {u : Int64} (hF : FixR R) (hB : Tbc I) (hS : Sn I) {t n : Nat} (hH : Hi I t n) {s i j : Nat} {c : Int} (hs : s < 6) (hij : i + j ≤ 12) (hc : inR c) : ∃ J, am_run am_tb (d + 4) 93 [vR 3, vI s, vI i, vI j, vI c] (LH L I R u) = some ([vI (tl (snow I 4 (91 * s + pl i j)))], LH L J R u) ∧ Cw I J t n (au (snow I 4) (91 * s + pl i j) (c % 10007)) := by
  have ht := hH.2.1
  obtain ⟨K, ek, k1, k2, k3, k4⟩ := s5_keep (d := d + 0) (L := L) (u := u) hF hH.1 hH.2.1 hH.2.2.1 hH.2.2.2
  have hp := pl_91 hij
  have e0 : K (10 + 2 * s) = I (10 + 2 * s) := k4 _ (by omega) (by omega)
  have hco := s6_coefIn (d := d) (L := L) (u := u) (I := K) (op_st hF hs) hij
  have hse := s6_setIn (d := d) (L := L) (u := u) (I := K) (op_st hF hs) hij (v := c % 10007)
  have hr := Sn_op hS hs (pl i j) hp
  have e1 : K (10 + 2 * s) (pl i j) = snow I 4 (91 * s + pl i j) := by rw [snow_op hs hp, e0, show 4 + 6 + 2 * s = 10 + 2 * s by omega]
  have e2 : snow I 4 (91 * s + pl i j) = I (10 + 2 * s) (pl i j) := by rw [← e1, e0]
  rw [e1] at hco
  refine ⟨au K (10 + 2 * s) (au (K (10 + 2 * s)) (pl i j) (c % 10007)), ?_, Cw_k ht k1 k2 k3 k4 (fun a ha => au_n _ _ (by omega)) (fun q hq => (snow_set (I := K) hs (f := au (I (10 + 2 * s)) (pl i j) (c % 10007)) (fun m hm => by rw [au_s, e0]) (fun a h1 h2 h3 => au_n _ _ h3) q hq).trans ?_)⟩
  · refine run_of tb_X11_sets (Nat.le_of_ble_eq_true rfl) ?_
    show ∃ ls', am_ev (am_run am_tb (d + 3)) tX11_sets ([vR 3, vI s, vI i, vI j, vI c, vU, vU], [], LH L I R u) = _
    apply Exists.intro
    unfold tX11_sets
    apply t_Q
    · apply t_S
      refine x_iload_n rfl ?_
      refine x_S1i (by decide) (Nat.le_of_ble_eq_true rfl) (ret_t (show 0 ≤ (s : Int) ∧ (s : Int) < 6 by omega) (s11_isOperator (d := d + 2) (by omega))) ?_
      exact rfl
    apply t_Q
    · apply t_K
      apply t_Qs
      apply t_Ks
      · apply t_Q
        · apply t_B
          · exact rfl
          exact t_if_eq_f (by omega)
        apply t_B
        · refine x_iload_n rfl ?_
          refine x_iload_n rfl ?_
          refine x_S2i (by decide) (Nat.le_of_ble_eq_true rfl) (ret_t (show 0 ≤ (i : Int) ∧ 0 ≤ (j : Int) ∧ (i : Int) ≤ 12 ∧ (j : Int) ≤ 12 ∧ (i : Int) + (j : Int) ≤ 12 by omega) (s6_isWord (d := d + 2) (by omega) (by omega))) ?_
          exact rfl
        exact t_if_ne_t (by omega)
      · decide
    apply t_B
    · refine x_aload_n rfl ?_
      refine x_gr tg_3 rfl (fx_3_1 hF) ?_
      refine x_aload_n rfl ?_
      refine x_gr tg_3 rfl (fx_3_0 hF) ?_
      refine x_V2v tg_21 (Nat.le_of_ble_eq_true rfl) (ek) ?_
      refine x_aload_n rfl ?_
      refine x_gr tg_3 rfl (fx_3_0 hF) ?_
      refine x_gr tg_4 rfl (fx_4_0 hF) ?_
      refine x_iload_n rfl ?_
      refine x_aald (by rw [tg_5]; decide) (ln_5 L) (by omega) (fx_op hF hs) ?_
      refine x_astore rfl ?_
      refine x_aload rfl ?_
      refine x_iload_n rfl ?_
      refine x_iload_n rfl ?_
      refine x_V3i (op_st hF hs).1 (Nat.le_of_ble_eq_true rfl) (hco) ?_
      refine x_istore rfl ?_
      refine x_aload rfl ?_
      refine x_iload_n rfl ?_
      refine x_iload_n rfl ?_
      refine x_iload rfl ?_
      refine x_S1i (by decide) (Nat.le_of_ble_eq_true rfl) (s1_residue (d := d + 1) hc) ?_
      refine x_V4v (op_st hF hs).1 (Nat.le_of_ble_eq_true rfl) (hse) ?_
      refine x_iload rfl ?_
      refine x_S1i (by decide) (Nat.le_of_ble_eq_true rfl) (s1_balanced (d := d + 2) (by omega)) ?_
      exact rfl
    exact t_ireq (Or.inl rfl) rfl rfl
  have e3 : ∀ m, m < 609 → snow K 4 m = snow I 4 m := fun m hm => snow_o (fun a h1 h2 => k4 a (by omega) (by omega)) hm
  refine (sop_au hp (fun m hm => ?_) q hq).trans ?_
  · rw [e3 _ (by omega), snow_op hs hm, show 4 + 6 + 2 * s = 10 + 2 * s by omega]
  · rw [au_i, au_i, e3 q hq]
set_option maxRecDepth 10000 in
theorem s11_at_ok {d L : Nat} {I : Nat → Nat → Int} {R : Nat → Nat → Option Nat} {u : Int64} (hF : FixR R) (hS : Sn I) {s i j : Nat} (hs : s < 6) (hij : i + j ≤ 12) : am_run am_tb (d + 4) 94 [vR 3, vI s, vI i, vI j] (LH L I R u) = some ([vI (tl (snow I 4 (91 * s + pl i j)))], LH L I R u) := by
  refine run_of tb_X11_at (Nat.le_of_ble_eq_true rfl) ?_
  show ∃ ls', am_ev (am_run am_tb (d + 3)) tX11_at ([vR 3, vI s, vI i, vI j], [], (LH L I R u)) = some (1, ls', [vI (tl (snow I 4 (91 * s + pl i j)))], LH L I R u)
  have hp := pl_91 hij
  have hco := s6_coefIn (d := d) (L := L) (u := u) (I := I) (op_st hF hs) hij
  have hr := Sn_op hS hs (pl i j) hp
  have e1 : I (10 + 2 * s) (pl i j) = snow I 4 (91 * s + pl i j) := by rw [snow_op hs hp, show 4 + 6 + 2 * s = 10 + 2 * s by omega]
  rw [e1] at hco hr
  apply Exists.intro
  unfold tX11_at
  apply t_Q
  · apply t_S
    refine x_iload_n rfl ?_
    refine x_S1i (by decide) (Nat.le_of_ble_eq_true rfl) (ret_t (show 0 ≤ (s : Int) ∧ (s : Int) < 6 by omega) (s11_isOperator (d := d + 2) (by omega))) ?_
    exact rfl
  apply t_Q
  · apply t_K
    apply t_Qs
    apply t_Ks
    · apply t_Q
      · apply t_B
        · exact rfl
        exact t_if_eq_f (by omega)
      apply t_B
      · refine x_iload_n rfl ?_
        refine x_iload_n rfl ?_
        refine x_S2i (by decide) (Nat.le_of_ble_eq_true rfl) (ret_t (show 0 ≤ (i : Int) ∧ 0 ≤ (j : Int) ∧ (i : Int) ≤ 12 ∧ (j : Int) ≤ 12 ∧ (i : Int) + (j : Int) ≤ 12 by omega) (s6_isWord (d := d + 2) (by omega) (by omega))) ?_
        exact rfl
      exact t_if_ne_t (by omega)
    · decide
  apply t_B
  · refine x_aload_n rfl ?_
    refine x_gr tg_3 rfl (fx_3_0 hF) ?_
    refine x_gr tg_4 rfl (fx_4_0 hF) ?_
    refine x_iload_n rfl ?_
    refine x_aald (by rw [tg_5]; decide) (ln_5 L) (by omega) (fx_op hF hs) ?_
    refine x_iload_n rfl ?_
    refine x_iload_n rfl ?_
    refine x_V3i (op_st hF hs).1 (Nat.le_of_ble_eq_true rfl) (hco) ?_
    refine x_S1i (by decide) (Nat.le_of_ble_eq_true rfl) (s1_balanced (d := d + 2) (by omega)) ?_
    exact rfl
  exact t_ireq (Or.inl rfl) rfl rfl
set_option maxRecDepth 10000 in
theorem s11_sums_ok {d L : Nat} {I : Nat → Nat → Int} {R : Nat → Nat → Option Nat} {u : Int64} (hF : FixR R) (hB : Tbc I) (hS : Sn I) {t n : Nat} (hH : Hi I t n) {s x w : Nat} {a b : Int} (hs : s < 6) (hx : x < 6) (hw : w < 6) (ha : inR a) (hb : inR b) : ∃ J, am_run am_tb (d + 5) 95 [vR 3, vI s, vI x, vI a, vI w, vI b] (LH L I R u) = some ([vI (cnt (mixF (a % 10007) (opc I x) (b % 10007) (opc I w)) 496 : Nat)], LH L J R u) ∧ Cw I J t n (sopS (snow I 4) s (mixF (a % 10007) (opc I x) (b % 10007) (opc I w))) := by
  have ht := hH.2.1
  have hz := s6_makeZero (d := d + 2) (L := L) (u := u) (I := I) (op_299 hF)
  have h1 := s6_addMultiple (d := d + 3) (L := L) (u := u) (I := stc I 300 (fun _ => 0)) (op_299 hF) (op_st hF hx) (by omega) (fun j hj => by rw [stc_s hj]; omega) (fun j hj => by rw [stc_o (by omega)]; exact Sn_op hS hx j hj) (v := a % 10007) (by omega)
  replace h1 := ev_c h1 (show _ = stc I 300 (fun j => a % 10007 * opc I x j % 10007) from stc_stc.trans (stc_c (fun j hj => by rw [stc_s hj, stc_o (by omega), Int.zero_add, opc, cl_s hj])))
  have h2 := s6_addMultiple (d := d + 3) (L := L) (u := u) (I := stc I 300 (fun j => a % 10007 * opc I x j % 10007)) (op_299 hF) (op_st hF hw) (by omega) (fun j hj => by rw [stc_s hj]; omega) (fun j hj => by rw [stc_o (by omega)]; exact Sn_op hS hw j hj) (v := b % 10007) (by omega)
  replace h2 := ev_c h2 (show _ = stc I 300 (mixF (a % 10007) (opc I x) (b % 10007) (opc I w)) from stc_stc.trans (stc_c (fun j hj => by
    rw [stc_s hj, stc_o (by omega)]
    unfold mixF opc
    rw [cl_s (c := 10 + 2 * w) hj]
    omega)))
  have hM : Fc I (stc I 300 (mixF (a % 10007) (opc I x) (b % 10007) (opc I w))) := Fc_s (Fc_r I) (by unfold Sca; omega)
  obtain ⟨J, hr, hC⟩ := s11_replace (d := d) (L := L) (u := u) (I := stc I 300 (mixF (a % 10007) (opc I x) (b % 10007) (opc I w))) hF (Fc_Hi hM hH) hs (fun j hj => by rw [stc_s hj]; exact mixF_b j (by omega))
  have hcl : cl (stc I 300 (mixF (a % 10007) (opc I x) (b % 10007) (opc I w))) 300 = mixF (a % 10007) (opc I x) (b % 10007) (opc I w) := by
    funext j
    by_cases hj : j < 91
    · rw [cl_s hj, stc_s hj]
    · rw [cl_z (by omega)]
      unfold mixF opc
      rw [cl_z (by omega), cl_z (by omega), Int.mul_zero, Int.mul_zero]
      rfl
  rw [hcl] at hr
  have hC2 := Cw_c (Cw_F hM hC) (g' := sopS (snow I 4) s (mixF (a % 10007) (opc I x) (b % 10007) (opc I w))) (fun j hj => by
    unfold sopS
    split
    · rw [stc_s (by omega)]
    · exact Fc_sn hM (by decide) j hj)
  generalize mixF (a % 10007) (opc I x) (b % 10007) (opc I w) = M at *
  refine ⟨J, ?_, hC2⟩
  · refine run_of tb_X11_sums (Nat.le_of_ble_eq_true rfl) ?_
    show ∃ ls', am_ev (am_run am_tb (d + 4)) tX11_sums ([vR 3, vI s, vI x, vI a, vI w, vI b], [], LH L I R u) = _
    apply Exists.intro
    unfold tX11_sums
    apply t_Q
    · apply t_S
      refine x_iload_n rfl ?_
      refine x_S1i (by decide) (Nat.le_of_ble_eq_true rfl) (ret_t (show 0 ≤ (s : Int) ∧ (s : Int) < 6 by omega) (s11_isOperator (d := d + 3) (by omega))) ?_
      exact rfl
    apply t_Q
    · apply t_K
      apply t_Qs
      apply t_Ks
      · apply t_Q
        · apply t_B
          · exact rfl
          exact t_if_eq_f (by omega)
        apply t_Q
        · apply t_B
          · refine x_iload_n rfl ?_
            refine x_S1i (by decide) (Nat.le_of_ble_eq_true rfl) (ret_t (show 0 ≤ (x : Int) ∧ (x : Int) < 6 by omega) (s11_isOperator (d := d + 3) (by omega))) ?_
            exact rfl
          exact t_if_eq_f (by omega)
        apply t_B
        · refine x_iload rfl ?_
          refine x_S1i (by decide) (Nat.le_of_ble_eq_true rfl) (ret_t (show 0 ≤ (w : Int) ∧ (w : Int) < 6 by omega) (s11_isOperator (d := d + 3) (by omega))) ?_
          exact rfl
        exact t_if_ne_t (by omega)
      · decide
    apply t_B
    · refine x_aload_n rfl ?_
      refine x_gr tg_3 rfl (fx_3_9 hF) ?_
      refine x_V1v tg_299 (Nat.le_of_ble_eq_true rfl) (hz) ?_
      refine x_aload_n rfl ?_
      refine x_gr tg_3 rfl (fx_3_9 hF) ?_
      refine x_aload_n rfl ?_
      refine x_gr tg_3 rfl (fx_3_0 hF) ?_
      refine x_gr tg_4 rfl (fx_4_0 hF) ?_
      refine x_iload_n rfl ?_
      refine x_aald (by rw [tg_5]; decide) (ln_5 L) (by omega) (fx_op hF hx) ?_
      refine x_iload_n rfl ?_
      refine x_S1i (by decide) (Nat.le_of_ble_eq_true rfl) (s1_residue (d := d + 2) ha) ?_
      refine x_V3v tg_299 (Nat.le_of_ble_eq_true rfl) (h1) ?_
      refine x_aload_n rfl ?_
      refine x_gr tg_3 rfl (fx_3_9 hF) ?_
      refine x_aload_n rfl ?_
      refine x_gr tg_3 rfl (fx_3_0 hF) ?_
      refine x_gr tg_4 rfl (fx_4_0 hF) ?_
      refine x_iload rfl ?_
      refine x_aald (by rw [tg_5]; decide) (ln_5 L) (by omega) (fx_op hF hw) ?_
      refine x_iload rfl ?_
      refine x_S1i (by decide) (Nat.le_of_ble_eq_true rfl) (s1_residue (d := d + 2) hb) ?_
      refine x_V3v tg_299 (Nat.le_of_ble_eq_true rfl) (h2) ?_
      refine x_aload_n rfl ?_
      refine x_iload_n rfl ?_
      refine x_V2i tg_3 (Nat.le_of_ble_eq_true rfl) (hr) ?_
      exact rfl
    exact t_ireq (Or.inl rfl) rfl rfl
theorem s11_rep {d L : Nat} {I : Nat → Nat → Int} {R : Nat → Nat → Option Nat} {u : Int64} (hF : FixR R) {t n s : Nat} {M : Nat → Nat → Int} {f : Nat → Int} (hM : Fc I M) (hH : Hi I t n) (hs : s < 6) (hf : resd f) (hd : dgr f ≤ 12) (h3 : ∀ j, j < 91 → M 300 j = f j) : ∃ J, am_run am_tb (d + 4) 120 [vR 3, vI s] (LH L M R u) = some ([vI (cnt f 496 : Nat)], LH L J R u) ∧ Cw I J t n (sopS (snow I 4) s f) := by
  obtain ⟨J, hr, hC⟩ := s11_replace (d := d) (L := L) (u := u) (I := M) hF (Fc_Hi hM hH) hs (fun j hj => by rw [h3 j hj]; exact hf j (by omega))
  rw [cnt_c (cl_a2 h3 hd)] at hr
  exact ⟨J, hr, Cw_c (Cw_F hM hC) (fun j hj => by
    unfold sopS
    split
    · rw [h3 _ (by omega)]
    · exact Fc_sn hM (by decide) j hj)⟩
theorem fit_d {g h : Nat → Int} (hg : dgr g ≤ 12) (hh : dgr h ≤ 12) (hd : dgr g < 0 ∨ dgr h < 0 ∨ dgr g + dgr h ≤ 12) : dgr (mul g h) ≤ 12 := by
  have := mul_d (g := g) (h := h)
  have b1 := dgr_b g
  have b2 := dgr_b h
  omega
set_option maxRecDepth 10000 in
theorem s11_times_full {d L : Nat} {I : Nat → Nat → Int} {R : Nat → Nat → Option Nat} {u : Int64} (hF : FixR R) (hB : Tbc I) (hS : Sn I) {s x w : Nat} (hs : s < 6) (hx : x < 6) (hw : w < 6) (hd : ¬ (dgr (opc I x) < 0 ∨ dgr (opc I w) < 0 ∨ dgr (opc I x) + dgr (opc I w) ≤ 12)) : am_run am_tb (d + 4) 96 [vR 3, vI s, vI x, vI w] (LH L I R u) = some ([vI (-20004)], LH L (rc I 2) R u) := by
  refine run_of tb_X11_times (Nat.le_of_ble_eq_true rfl) ?_
  show ∃ ls', am_ev (am_run am_tb (d + 3)) tX11_times ([vR 3, vI s, vI x, vI w, vU, vU], [], (LH L I R u)) = some (1, ls', [vI (-20004)], LH L (rc I 2) R u)
  apply Exists.intro
  unfold tX11_times
  apply t_Q
  · apply t_S
    refine x_iload_n rfl ?_
    refine x_S1i (by decide) (Nat.le_of_ble_eq_true rfl) (ret_t (show 0 ≤ (s : Int) ∧ (s : Int) < 6 by omega) (s11_isOperator (d := d + 2) (by omega))) ?_
    exact rfl
  apply t_Q
  · apply t_K
    apply t_Qs
    apply t_Ks
    · apply t_Q
      · apply t_B
        · exact rfl
        exact t_if_eq_f (by omega)
      apply t_Q
      · apply t_B
        · refine x_iload_n rfl ?_
          refine x_S1i (by decide) (Nat.le_of_ble_eq_true rfl) (ret_t (show 0 ≤ (x : Int) ∧ (x : Int) < 6 by omega) (s11_isOperator (d := d + 2) (by omega))) ?_
          exact rfl
        exact t_if_eq_f (by omega)
      apply t_B
      · refine x_iload_n rfl ?_
        refine x_S1i (by decide) (Nat.le_of_ble_eq_true rfl) (ret_t (show 0 ≤ (w : Int) ∧ (w : Int) < 6 by omega) (s11_isOperator (d := d + 2) (by omega))) ?_
        exact rfl
      exact t_if_ne_t (by omega)
    · decide
  apply t_Q
  · apply t_S
    refine x_aload_n rfl ?_
    refine x_gr tg_3 rfl (fx_3_0 hF) ?_
    refine x_gr tg_4 rfl (fx_4_0 hF) ?_
    refine x_iload_n rfl ?_
    refine x_aald (by rw [tg_5]; decide) (ln_5 L) (by omega) (fx_op hF hx) ?_
    refine x_astore rfl ?_
    refine x_aload_n rfl ?_
    refine x_gr tg_3 rfl (fx_3_0 hF) ?_
    refine x_gr tg_4 rfl (fx_4_0 hF) ?_
    refine x_iload_n rfl ?_
    refine x_aald (by rw [tg_5]; decide) (ln_5 L) (by omega) (fx_op hF hw) ?_
    refine x_astore rfl ?_
    refine x_aload rfl ?_
    refine x_aload rfl ?_
    refine x_S2i (by decide) (Nat.le_of_ble_eq_true rfl) (ret_f hd (s1_productFits (d := d + 0) hB.1 (op_st hF hx) (op_st hF hw) (Sn_op hS hx) (Sn_op hS hw))) ?_
    exact rfl
  apply t_Qs
  apply t_Ks
  · apply t_Q
    · apply t_B
      · exact rfl
      exact t_if_ne_f (by omega)
    apply t_B
    · refine x_aload_n rfl ?_
      refine x_V1i tg_3 (Nat.le_of_ble_eq_true rfl) (s11_full (d := d + 2) hF) ?_
      exact rfl
    exact t_ireq (Or.inl rfl) rfl rfl
  · decide
set_option maxRecDepth 10000 in
theorem s11_bracket_full {d L : Nat} {I : Nat → Nat → Int} {R : Nat → Nat → Option Nat} {u : Int64} (hF : FixR R) (hB : Tbc I) (hS : Sn I) {s x w : Nat} (hs : s < 6) (hx : x < 6) (hw : w < 6) (hd : ¬ (dgr (opc I x) < 0 ∨ dgr (opc I w) < 0 ∨ dgr (opc I x) + dgr (opc I w) ≤ 12)) : am_run am_tb (d + 4) 97 [vR 3, vI s, vI x, vI w] (LH L I R u) = some ([vI (-20004)], LH L (rc I 2) R u) := by
  refine run_of tb_X11_bracket (Nat.le_of_ble_eq_true rfl) ?_
  show ∃ ls', am_ev (am_run am_tb (d + 3)) tX11_bracket ([vR 3, vI s, vI x, vI w, vU, vU], [], (LH L I R u)) = some (1, ls', [vI (-20004)], LH L (rc I 2) R u)
  apply Exists.intro
  unfold tX11_bracket
  apply t_Q
  · apply t_S
    refine x_iload_n rfl ?_
    refine x_S1i (by decide) (Nat.le_of_ble_eq_true rfl) (ret_t (show 0 ≤ (s : Int) ∧ (s : Int) < 6 by omega) (s11_isOperator (d := d + 2) (by omega))) ?_
    exact rfl
  apply t_Q
  · apply t_K
    apply t_Qs
    apply t_Ks
    · apply t_Q
      · apply t_B
        · exact rfl
        exact t_if_eq_f (by omega)
      apply t_Q
      · apply t_B
        · refine x_iload_n rfl ?_
          refine x_S1i (by decide) (Nat.le_of_ble_eq_true rfl) (ret_t (show 0 ≤ (x : Int) ∧ (x : Int) < 6 by omega) (s11_isOperator (d := d + 2) (by omega))) ?_
          exact rfl
        exact t_if_eq_f (by omega)
      apply t_B
      · refine x_iload_n rfl ?_
        refine x_S1i (by decide) (Nat.le_of_ble_eq_true rfl) (ret_t (show 0 ≤ (w : Int) ∧ (w : Int) < 6 by omega) (s11_isOperator (d := d + 2) (by omega))) ?_
        exact rfl
      exact t_if_ne_t (by omega)
    · decide
  apply t_Q
  · apply t_S
    refine x_aload_n rfl ?_
    refine x_gr tg_3 rfl (fx_3_0 hF) ?_
    refine x_gr tg_4 rfl (fx_4_0 hF) ?_
    refine x_iload_n rfl ?_
    refine x_aald (by rw [tg_5]; decide) (ln_5 L) (by omega) (fx_op hF hx) ?_
    refine x_astore rfl ?_
    refine x_aload_n rfl ?_
    refine x_gr tg_3 rfl (fx_3_0 hF) ?_
    refine x_gr tg_4 rfl (fx_4_0 hF) ?_
    refine x_iload_n rfl ?_
    refine x_aald (by rw [tg_5]; decide) (ln_5 L) (by omega) (fx_op hF hw) ?_
    refine x_astore rfl ?_
    refine x_aload rfl ?_
    refine x_aload rfl ?_
    refine x_S2i (by decide) (Nat.le_of_ble_eq_true rfl) (ret_f hd (s1_productFits (d := d + 0) hB.1 (op_st hF hx) (op_st hF hw) (Sn_op hS hx) (Sn_op hS hw))) ?_
    exact rfl
  apply t_Qs
  apply t_Ks
  · apply t_Q
    · apply t_B
      · exact rfl
      exact t_if_ne_f (by omega)
    apply t_B
    · refine x_aload_n rfl ?_
      refine x_V1i tg_3 (Nat.le_of_ble_eq_true rfl) (s11_full (d := d + 2) hF) ?_
      exact rfl
    exact t_ireq (Or.inl rfl) rfl rfl
  · decide
set_option maxRecDepth 10000 in
theorem s11_times_ok {d L : Nat} {I : Nat → Nat → Int} {R : Nat → Nat → Option Nat} {u : Int64} (hF : FixR R) (hB : Tbc I) (hS : Sn I) {t n : Nat} (hH : Hi I t n) {s x w : Nat} (hs : s < 6) (hx : x < 6) (hw : w < 6) (hd : dgr (opc I x) < 0 ∨ dgr (opc I w) < 0 ∨ dgr (opc I x) + dgr (opc I w) ≤ 12) : ∃ J, am_run am_tb (d + 5) 96 [vR 3, vI s, vI x, vI w] (LH L I R u) = some ([vI (cnt (mul (opc I x) (opc I w)) 496 : Nat)], LH L J R u) ∧ Cw I J t n (sopS (snow I 4) s (mul (opc I x) (opc I w))) := by
  have ht := hH.2.1
  have hz := s6_makeZero (d := d + 2) (L := L) (u := u) (I := I) (op_299 hF)
  have hcl : ∀ y, y < 6 → cl (stc I 300 (fun _ => 0)) (10 + 2 * y) = opc I y := fun y hy => cl_o (stc_o (by omega))
  have h1 := s1_addProduct (d := d + 1) (L := L) (u := u) (I := stc I 300 (fun _ => 0)) hF (Tbc_s hB (by unfold Nt; omega)) (op_299 hF) (op_st hF hx) (op_st hF hw) (by unfold Nt; omega) (by omega) (by omega) (fun j hj => by rw [stc_s hj]; omega) (fun j hj => by rw [stc_o (by omega)]; exact Sn_op hS hw j hj) (fun j hj => by rw [stc_o (by omega)]; exact Sn_op hS hx j hj) (v := 1) (by omega) (by rw [hcl x hx, hcl w hw]; exact hd)
  rw [hcl x hx, hcl w hw] at h1
  replace h1 := ev_c h1 (show _ = stc I 300 (mul (opc I x) (opc I w)) from stc_stc.trans (stc_c (fun j hj => by rw [stc_s hj, Int.one_mul, Int.zero_add, mul_v (opc_a hS hx) (opc_a hS hw) (by omega)])))
  have hM : Fc I (stc I 300 (mul (opc I x) (opc I w))) := Fc_s (Fc_r I) (by unfold Sca; omega)
  obtain ⟨J, hr, hC⟩ := s11_rep (d := d) (L := L) (u := u) hF hM hH hs mul_r (fit_d (g := opc I x) (h := opc I w) clD clD hd) (fun j hj => stc_s hj)
  generalize mul (opc I x) (opc I w) = M at *
  refine ⟨J, ?_, hC⟩
  · refine run_of tb_X11_times (Nat.le_of_ble_eq_true rfl) ?_
    show ∃ ls', am_ev (am_run am_tb (d + 4)) tX11_times ([vR 3, vI s, vI x, vI w, vU, vU], [], LH L I R u) = _
    apply Exists.intro
    unfold tX11_times
    apply t_Q
    · apply t_S
      refine x_iload_n rfl ?_
      refine x_S1i (by decide) (Nat.le_of_ble_eq_true rfl) (ret_t (show 0 ≤ (s : Int) ∧ (s : Int) < 6 by omega) (s11_isOperator (d := d + 3) (by omega))) ?_
      exact rfl
    apply t_Q
    · apply t_K
      apply t_Qs
      apply t_Ks
      · apply t_Q
        · apply t_B
          · exact rfl
          exact t_if_eq_f (by omega)
        apply t_Q
        · apply t_B
          · refine x_iload_n rfl ?_
            refine x_S1i (by decide) (Nat.le_of_ble_eq_true rfl) (ret_t (show 0 ≤ (x : Int) ∧ (x : Int) < 6 by omega) (s11_isOperator (d := d + 3) (by omega))) ?_
            exact rfl
          exact t_if_eq_f (by omega)
        apply t_B
        · refine x_iload_n rfl ?_
          refine x_S1i (by decide) (Nat.le_of_ble_eq_true rfl) (ret_t (show 0 ≤ (w : Int) ∧ (w : Int) < 6 by omega) (s11_isOperator (d := d + 3) (by omega))) ?_
          exact rfl
        exact t_if_ne_t (by omega)
      · decide
    apply t_Q
    · apply t_S
      refine x_aload_n rfl ?_
      refine x_gr tg_3 rfl (fx_3_0 hF) ?_
      refine x_gr tg_4 rfl (fx_4_0 hF) ?_
      refine x_iload_n rfl ?_
      refine x_aald (by rw [tg_5]; decide) (ln_5 L) (by omega) (fx_op hF hx) ?_
      refine x_astore rfl ?_
      refine x_aload_n rfl ?_
      refine x_gr tg_3 rfl (fx_3_0 hF) ?_
      refine x_gr tg_4 rfl (fx_4_0 hF) ?_
      refine x_iload_n rfl ?_
      refine x_aald (by rw [tg_5]; decide) (ln_5 L) (by omega) (fx_op hF hw) ?_
      refine x_astore rfl ?_
      refine x_aload rfl ?_
      refine x_aload rfl ?_
      refine x_S2i (by decide) (Nat.le_of_ble_eq_true rfl) (ret_t hd (s1_productFits (d := d + 1) hB.1 (op_st hF hx) (op_st hF hw) (Sn_op hS hx) (Sn_op hS hw))) ?_
      exact rfl
    apply t_Q
    · apply t_K
      apply t_Qs
      apply t_B
      · exact rfl
      exact t_if_ne_t (by omega)
    apply t_B
    · refine x_aload_n rfl ?_
      refine x_gr tg_3 rfl (fx_3_9 hF) ?_
      refine x_V1v tg_299 (Nat.le_of_ble_eq_true rfl) (hz) ?_
      refine x_aload_n rfl ?_
      refine x_gr tg_3 rfl (fx_3_3 hF) ?_
      refine x_aload_n rfl ?_
      refine x_gr tg_3 rfl (fx_3_9 hF) ?_
      refine x_iconst ?_
      refine x_aload rfl ?_
      refine x_aload rfl ?_
      refine x_V5v tg_110 (Nat.le_of_ble_eq_true rfl) (h1) ?_
      refine x_aload_n rfl ?_
      refine x_iload_n rfl ?_
      refine x_V2i tg_3 (Nat.le_of_ble_eq_true rfl) (hr) ?_
      exact rfl
    exact t_ireq (Or.inl rfl) rfl rfl
set_option maxRecDepth 10000 in
theorem s11_bracket_ok {d L : Nat} {I : Nat → Nat → Int} {R : Nat → Nat → Option Nat} {u : Int64} (hF : FixR R) (hB : Tbc I) (hS : Sn I) {t n : Nat} (hH : Hi I t n) {s x w : Nat} (hs : s < 6) (hx : x < 6) (hw : w < 6) (hd : dgr (opc I x) < 0 ∨ dgr (opc I w) < 0 ∨ dgr (opc I x) + dgr (opc I w) ≤ 12) : ∃ J, am_run am_tb (d + 5) 97 [vR 3, vI s, vI x, vI w] (LH L I R u) = some ([vI (cnt (mixF 1 (mul (opc I x) (opc I w)) 10006 (mul (opc I w) (opc I x))) 496 : Nat)], LH L J R u) ∧ Cw I J t n (sopS (snow I 4) s (mixF 1 (mul (opc I x) (opc I w)) 10006 (mul (opc I w) (opc I x)))) := by
  have ht := hH.2.1
  have hz := s6_makeZero (d := d + 2) (L := L) (u := u) (I := I) (op_299 hF)
  have hcl : ∀ y, y < 6 → cl (stc I 300 (fun _ => 0)) (10 + 2 * y) = opc I y := fun y hy => cl_o (stc_o (by omega))
  have h1 := s1_addProduct (d := d + 1) (L := L) (u := u) (I := stc I 300 (fun _ => 0)) hF (Tbc_s hB (by unfold Nt; omega)) (op_299 hF) (op_st hF hx) (op_st hF hw) (by unfold Nt; omega) (by omega) (by omega) (fun j hj => by rw [stc_s hj]; omega) (fun j hj => by rw [stc_o (by omega)]; exact Sn_op hS hw j hj) (fun j hj => by rw [stc_o (by omega)]; exact Sn_op hS hx j hj) (v := 1) (by omega) (by rw [hcl x hx, hcl w hw]; exact hd)
  rw [hcl x hx, hcl w hw] at h1
  replace h1 := ev_c h1 (show _ = stc I 300 (mul (opc I x) (opc I w)) from stc_stc.trans (stc_c (fun j hj => by rw [stc_s hj, Int.one_mul, Int.zero_add, mul_v (opc_a hS hx) (opc_a hS hw) (by omega)])))
  have hcl2 : ∀ y, y < 6 → cl (stc I 300 (mul (opc I x) (opc I w))) (10 + 2 * y) = opc I y := fun y hy => cl_o (stc_o (by omega))
  have h2 := s1_addProduct (d := d + 1) (L := L) (u := u) (I := stc I 300 (mul (opc I x) (opc I w))) hF (Tbc_s hB (by unfold Nt; omega)) (op_299 hF) (op_st hF hw) (op_st hF hx) (by unfold Nt; omega) (by omega) (by omega) (fun j hj => by rw [stc_s hj]; exact mul_r j (by omega)) (fun j hj => by rw [stc_o (by omega)]; exact Sn_op hS hx j hj) (fun j hj => by rw [stc_o (by omega)]; exact Sn_op hS hw j hj) (v := 10006) (by omega) (by rw [hcl2 x hx, hcl2 w hw]; omega)
  rw [hcl2 x hx, hcl2 w hw] at h2
  replace h2 := ev_c h2 (show _ = stc I 300 (mixF 1 (mul (opc I x) (opc I w)) 10006 (mul (opc I w) (opc I x))) from stc_stc.trans (stc_c (fun j hj => by
    rw [stc_s hj]
    unfold mixF
    rw [mul_v (opc_a hS hw) (opc_a hS hx) (w := j) (by omega)]
    omega)))
  have hM : Fc I (stc I 300 (mixF 1 (mul (opc I x) (opc I w)) 10006 (mul (opc I w) (opc I x)))) := Fc_s (Fc_r I) (by unfold Sca; omega)
  have hd1 := fit_d (g := opc I x) (h := opc I w) clD clD hd
  have hd2 := fit_d (g := opc I w) (h := opc I x) clD clD (by omega)
  obtain ⟨J, hr, hC⟩ := s11_rep (d := d) (L := L) (u := u) hF hM hH hs mixF_b (dgr_le (by decide) (fun v hv q => by
    unfold mixF
    rw [dgr_z (f := mul (opc I x) (opc I w)) hv (by omega), dgr_z (f := mul (opc I w) (opc I x)) hv (by omega)]
    rfl)) (fun j hj => stc_s hj)
  generalize mixF 1 (mul (opc I x) (opc I w)) 10006 (mul (opc I w) (opc I x)) = M at *
  generalize mul (opc I x) (opc I w) = M2 at *
  refine ⟨J, ?_, hC⟩
  · refine run_of tb_X11_bracket (Nat.le_of_ble_eq_true rfl) ?_
    show ∃ ls', am_ev (am_run am_tb (d + 4)) tX11_bracket ([vR 3, vI s, vI x, vI w, vU, vU], [], LH L I R u) = _
    apply Exists.intro
    unfold tX11_bracket
    apply t_Q
    · apply t_S
      refine x_iload_n rfl ?_
      refine x_S1i (by decide) (Nat.le_of_ble_eq_true rfl) (ret_t (show 0 ≤ (s : Int) ∧ (s : Int) < 6 by omega) (s11_isOperator (d := d + 3) (by omega))) ?_
      exact rfl
    apply t_Q
    · apply t_K
      apply t_Qs
      apply t_Ks
      · apply t_Q
        · apply t_B
          · exact rfl
          exact t_if_eq_f (by omega)
        apply t_Q
        · apply t_B
          · refine x_iload_n rfl ?_
            refine x_S1i (by decide) (Nat.le_of_ble_eq_true rfl) (ret_t (show 0 ≤ (x : Int) ∧ (x : Int) < 6 by omega) (s11_isOperator (d := d + 3) (by omega))) ?_
            exact rfl
          exact t_if_eq_f (by omega)
        apply t_B
        · refine x_iload_n rfl ?_
          refine x_S1i (by decide) (Nat.le_of_ble_eq_true rfl) (ret_t (show 0 ≤ (w : Int) ∧ (w : Int) < 6 by omega) (s11_isOperator (d := d + 3) (by omega))) ?_
          exact rfl
        exact t_if_ne_t (by omega)
      · decide
    apply t_Q
    · apply t_S
      refine x_aload_n rfl ?_
      refine x_gr tg_3 rfl (fx_3_0 hF) ?_
      refine x_gr tg_4 rfl (fx_4_0 hF) ?_
      refine x_iload_n rfl ?_
      refine x_aald (by rw [tg_5]; decide) (ln_5 L) (by omega) (fx_op hF hx) ?_
      refine x_astore rfl ?_
      refine x_aload_n rfl ?_
      refine x_gr tg_3 rfl (fx_3_0 hF) ?_
      refine x_gr tg_4 rfl (fx_4_0 hF) ?_
      refine x_iload_n rfl ?_
      refine x_aald (by rw [tg_5]; decide) (ln_5 L) (by omega) (fx_op hF hw) ?_
      refine x_astore rfl ?_
      refine x_aload rfl ?_
      refine x_aload rfl ?_
      refine x_S2i (by decide) (Nat.le_of_ble_eq_true rfl) (ret_t hd (s1_productFits (d := d + 1) hB.1 (op_st hF hx) (op_st hF hw) (Sn_op hS hx) (Sn_op hS hw))) ?_
      exact rfl
    apply t_Q
    · apply t_K
      apply t_Qs
      apply t_B
      · exact rfl
      exact t_if_ne_t (by omega)
    apply t_B
    · refine x_aload_n rfl ?_
      refine x_gr tg_3 rfl (fx_3_9 hF) ?_
      refine x_V1v tg_299 (Nat.le_of_ble_eq_true rfl) (hz) ?_
      refine x_aload_n rfl ?_
      refine x_gr tg_3 rfl (fx_3_3 hF) ?_
      refine x_aload_n rfl ?_
      refine x_gr tg_3 rfl (fx_3_9 hF) ?_
      refine x_iconst ?_
      refine x_aload rfl ?_
      refine x_aload rfl ?_
      refine x_V5v tg_110 (Nat.le_of_ble_eq_true rfl) (h1) ?_
      refine x_aload_n rfl ?_
      refine x_gr tg_3 rfl (fx_3_3 hF) ?_
      refine x_aload_n rfl ?_
      refine x_gr tg_3 rfl (fx_3_9 hF) ?_
      refine x_sipush ?_
      refine x_aload rfl ?_
      refine x_aload rfl ?_
      refine x_V5v tg_110 (Nat.le_of_ble_eq_true rfl) (h2) ?_
      refine x_aload_n rfl ?_
      refine x_iload_n rfl ?_
      refine x_V2i tg_3 (Nat.le_of_ble_eq_true rfl) (hr) ?_
      exact rfl
    exact t_ireq (Or.inl rfl) rfl rfl
set_option maxRecDepth 10000 in
theorem s11_power_full {d L : Nat} {I : Nat → Nat → Int} {R : Nat → Nat → Option Nat} {u : Int64} (hF : FixR R) (hB : Tbc I) (hS : Sn I) {s x m : Nat} (hs : s < 6) (hx : x < 6) (hm : m ≤ 12) (hd : ¬ (dgr (opc I x) < 0 ∨ dgr (opc I x) * (m : Int) ≤ 12)) : am_run am_tb (d + 4) 98 [vR 3, vI s, vI x, vI m] (LH L I R u) = some ([vI (-20004)], LH L (rc I 2) R u) := by
  refine run_of tb_X11_power (Nat.le_of_ble_eq_true rfl) ?_
  show ∃ ls', am_ev (am_run am_tb (d + 3)) tX11_power ([vR 3, vI s, vI x, vI m, vU], [], (LH L I R u)) = some (1, ls', [vI (-20004)], LH L (rc I 2) R u)
  apply Exists.intro
  unfold tX11_power
  apply t_Q
  · apply t_S
    refine x_iload_n rfl ?_
    refine x_S1i (by decide) (Nat.le_of_ble_eq_true rfl) (ret_t (show 0 ≤ (s : Int) ∧ (s : Int) < 6 by omega) (s11_isOperator (d := d + 2) (by omega))) ?_
    exact rfl
  apply t_Q
  · apply t_K
    apply t_Qs
    apply t_Ks
    · apply t_Q
      · apply t_B
        · exact rfl
        exact t_if_eq_f (by omega)
      apply t_Q
      · apply t_B
        · refine x_iload_n rfl ?_
          refine x_S1i (by decide) (Nat.le_of_ble_eq_true rfl) (ret_t (show 0 ≤ (x : Int) ∧ (x : Int) < 6 by omega) (s11_isOperator (d := d + 2) (by omega))) ?_
          exact rfl
        exact t_if_eq_f (by omega)
      apply t_Q
      · apply t_B
        · refine x_iload_n rfl ?_
          exact rfl
        exact t_if_lt_f (by omega)
      apply t_B
      · refine x_iload_n rfl ?_
        refine x_bipush ?_
        exact rfl
      exact t_ic_le_t (by omega)
    · decide
  apply t_Q
  · apply t_S
    refine x_aload_n rfl ?_
    refine x_gr tg_3 rfl (fx_3_0 hF) ?_
    refine x_gr tg_4 rfl (fx_4_0 hF) ?_
    refine x_iload_n rfl ?_
    refine x_aald (by rw [tg_5]; decide) (ln_5 L) (by omega) (fx_op hF hx) ?_
    refine x_astore rfl ?_
    refine x_aload rfl ?_
    refine x_iload_n rfl ?_
    refine x_S2i (by decide) (Nat.le_of_ble_eq_true rfl) (ret_f hd (s1_powerFits (d := d + 0) hB.1 (op_st hF hx) (Sn_op hS hx) (n := m) (by omega))) ?_
    exact rfl
  apply t_Qs
  apply t_Ks
  · apply t_Q
    · apply t_B
      · exact rfl
      exact t_if_ne_f (by omega)
    apply t_B
    · refine x_aload_n rfl ?_
      refine x_V1i tg_3 (Nat.le_of_ble_eq_true rfl) (s11_full (d := d + 2) hF) ?_
      exact rfl
    exact t_ireq (Or.inl rfl) rfl rfl
  · decide
set_option maxRecDepth 10000 in
theorem s11_power_ok {d L : Nat} {I : Nat → Nat → Int} {R : Nat → Nat → Option Nat} {u : Int64} (hF : FixR R) (hB : Tbc I) (hS : Sn I) {t n : Nat} (hH : Hi I t n) {s x m : Nat} (hs : s < 6) (hx : x < 6) (hm : m ≤ 12) (hd : dgr (opc I x) < 0 ∨ dgr (opc I x) * (m : Int) ≤ 12) : ∃ J, am_run am_tb (d + 5) 98 [vR 3, vI s, vI x, vI m] (LH L I R u) = some ([vI (cnt (powL (opc I x) m) 496 : Nat)], LH L J R u) ∧ Cw I J t n (sopS (snow I 4) s (powL (opc I x) m)) := by
  have ht := hH.2.1
  have h1 := s1_raise (d := d) (L := L) (u := u) (I := I) hF hB (op_299 hF) (op_st hF hx) (by unfold Nt; omega) (by omega) (by omega) (by omega) (Sn_op hS hx) (n := m) (by omega) hd
  rw [show cl I (10 + 2 * x) = opc I x from rfl] at h1
  have hdp : dgr (powL (opc I x) m) ≤ 12 := by
    have hdk := powL_d (g := opc I x) m
    have hb := dgr_b (opc I x)
    by_cases hz : dgr (opc I x) < 0
    · rw [show max 0 (dgr (opc I x)) = 0 by omega, Int.mul_zero] at hdk
      omega
    · rw [show max 0 (dgr (opc I x)) = dgr (opc I x) by omega, Int.mul_comm] at hdk
      omega
  have hM : Fc I (stc (stc I 158 (if m = 0 then I 158 else powL (opc I x) m)) 300 (powL (opc I x) m)) := Fc_s (Fc_s (Fc_r I) (by unfold Sca; omega)) (by unfold Sca; omega)
  obtain ⟨J, hr, hC⟩ := s11_rep (d := d) (L := L) (u := u) hF hM hH hs (powL_b m) hdp (fun j hj => stc_s hj)
  generalize stc (stc I 158 (if m = 0 then I 158 else powL (opc I x) m)) 300 (powL (opc I x) m) = M at *
  generalize powL (opc I x) m = M2 at *
  refine ⟨J, ?_, hC⟩
  · refine run_of tb_X11_power (Nat.le_of_ble_eq_true rfl) ?_
    show ∃ ls', am_ev (am_run am_tb (d + 4)) tX11_power ([vR 3, vI s, vI x, vI m, vU], [], LH L I R u) = _
    apply Exists.intro
    unfold tX11_power
    apply t_Q
    · apply t_S
      refine x_iload_n rfl ?_
      refine x_S1i (by decide) (Nat.le_of_ble_eq_true rfl) (ret_t (show 0 ≤ (s : Int) ∧ (s : Int) < 6 by omega) (s11_isOperator (d := d + 3) (by omega))) ?_
      exact rfl
    apply t_Q
    · apply t_K
      apply t_Qs
      apply t_Ks
      · apply t_Q
        · apply t_B
          · exact rfl
          exact t_if_eq_f (by omega)
        apply t_Q
        · apply t_B
          · refine x_iload_n rfl ?_
            refine x_S1i (by decide) (Nat.le_of_ble_eq_true rfl) (ret_t (show 0 ≤ (x : Int) ∧ (x : Int) < 6 by omega) (s11_isOperator (d := d + 3) (by omega))) ?_
            exact rfl
          exact t_if_eq_f (by omega)
        apply t_Q
        · apply t_B
          · refine x_iload_n rfl ?_
            exact rfl
          exact t_if_lt_f (by omega)
        apply t_B
        · refine x_iload_n rfl ?_
          refine x_bipush ?_
          exact rfl
        exact t_ic_le_t (by omega)
      · decide
    apply t_Q
    · apply t_S
      refine x_aload_n rfl ?_
      refine x_gr tg_3 rfl (fx_3_0 hF) ?_
      refine x_gr tg_4 rfl (fx_4_0 hF) ?_
      refine x_iload_n rfl ?_
      refine x_aald (by rw [tg_5]; decide) (ln_5 L) (by omega) (fx_op hF hx) ?_
      refine x_astore rfl ?_
      refine x_aload rfl ?_
      refine x_iload_n rfl ?_
      refine x_S2i (by decide) (Nat.le_of_ble_eq_true rfl) (ret_t hd (s1_powerFits (d := d + 1) hB.1 (op_st hF hx) (Sn_op hS hx) (n := m) (by omega))) ?_
      exact rfl
    apply t_Q
    · apply t_K
      apply t_Qs
      apply t_B
      · exact rfl
      exact t_if_ne_t (by omega)
    apply t_B
    · refine x_aload_n rfl ?_
      refine x_gr tg_3 rfl (fx_3_3 hF) ?_
      refine x_aload_n rfl ?_
      refine x_gr tg_3 rfl (fx_3_9 hF) ?_
      refine x_aload rfl ?_
      refine x_iload_n rfl ?_
      refine x_V4v tg_110 (Nat.le_of_ble_eq_true rfl) (h1) ?_
      refine x_aload_n rfl ?_
      refine x_iload_n rfl ?_
      refine x_V2i tg_3 (Nat.le_of_ble_eq_true rfl) (hr) ?_
      exact rfl
    exact t_ireq (Or.inl rfl) rfl rfl
theorem ajm_d {s : Nat → Int} {n : Nat} (hn : n ≤ 13) : ∀ w, 91 ≤ w → ajm s n w = 0 := by
  intro w hw
  have hz : ajs s n w = 0 := by
    refine Decidable.byContradiction fun q => ?_
    obtain ⟨j, hj, h1⟩ := smk_ne q
    have h2 : cor 0 j (spj s j (13 - j)) 496 w ≠ 0 := fun z => h1 (by show _ * _ = (0 : Int); rw [z, Int.mul_zero])
    obtain ⟨k, hk, h3⟩ := smk_ne h2
    have h4 : spj s j (13 - j) k ≠ 0 := fun z => h3 (by show _ * _ = (0 : Int); rw [z, Int.zero_mul])
    have h5 : co 0 j (xw k) (dw k) w ≠ 0 := fun z => h3 (by show _ * _ = (0 : Int); rw [z, Int.mul_zero])
    have h6 : dw k = 0 ∧ xw k < 13 - j := Decidable.byContradiction fun q => h4 (if_neg q)
    obtain ⟨t, t1, t2, e⟩ := co_ne h5
    have := pl_91 (i := 0 + xw k - t) (j := j - t + dw k) (by omega)
    omega
  show ajs s n w % 10007 = 0
  rw [hz]
  rfl
set_option maxRecDepth 10000 in
theorem s11_reversed_ok {d L : Nat} {I : Nat → Nat → Int} {R : Nat → Nat → Option Nat} {u : Int64} (hF : FixR R) (hB : Tbc I) (hS : Sn I) {t n : Nat} (hH : Hi I t n) {s x : Nat} (hs : s < 6) (hx : x < 6) : ∃ J, am_run am_tb (d + 6) 99 [vR 3, vI s, vI x] (LH L I R u) = some ([vI (cnt (ajm (opc I x) 13) 496 : Nat)], LH L J R u) ∧ Cw I J t n (sopS (snow I 4) s (ajm (opc I x) 13)) := by
  have ht := hH.2.1
  obtain ⟨y, h1⟩ := s1_adjoin (d := d) (L := L) (u := u) (I := I) hF hB (op_299 hF) (op_st hF hx) (by unfold Nt; omega) (by omega) (by omega) (by omega) (Sn_op hS hx)
  rw [show cl I (10 + 2 * x) = opc I x from rfl] at h1
  have hM : Fc I (stc (stc I 158 y) 300 (ajm (opc I x) 13)) := Fc_s (Fc_s (Fc_r I) (by unfold Sca; omega)) (by unfold Sca; omega)
  obtain ⟨J, hr, hC⟩ := s11_rep (d := d + 1) (L := L) (u := u) hF hM hH hs (f := ajm (opc I x) 13) (fun j _ => ajm_b _ _ j) (dgr_le (by decide) (fun v hv q => ajm_d (by decide) v (by
    refine Nat.not_lt.mp fun z => ?_
    have := wn_12 z
    omega))) (fun j hj => stc_s hj)
  generalize ajm (opc I x) 13 = M2 at *
  refine ⟨J, ?_, hC⟩
  · refine run_of tb_X11_reversed (Nat.le_of_ble_eq_true rfl) ?_
    show ∃ ls', am_ev (am_run am_tb (d + 5)) tX11_reversed ([vR 3, vI s, vI x], [], LH L I R u) = _
    apply Exists.intro
    unfold tX11_reversed
    apply t_Q
    · apply t_S
      refine x_iload_n rfl ?_
      refine x_S1i (by decide) (Nat.le_of_ble_eq_true rfl) (ret_t (show 0 ≤ (s : Int) ∧ (s : Int) < 6 by omega) (s11_isOperator (d := d + 4) (by omega))) ?_
      exact rfl
    apply t_Q
    · apply t_K
      apply t_Qs
      apply t_Ks
      · apply t_Q
        · apply t_B
          · exact rfl
          exact t_if_eq_f (by omega)
        apply t_B
        · refine x_iload_n rfl ?_
          refine x_S1i (by decide) (Nat.le_of_ble_eq_true rfl) (ret_t (show 0 ≤ (x : Int) ∧ (x : Int) < 6 by omega) (s11_isOperator (d := d + 4) (by omega))) ?_
          exact rfl
        exact t_if_ne_t (by omega)
      · decide
    apply t_B
    · refine x_aload_n rfl ?_
      refine x_gr tg_3 rfl (fx_3_3 hF) ?_
      refine x_aload_n rfl ?_
      refine x_gr tg_3 rfl (fx_3_9 hF) ?_
      refine x_aload_n rfl ?_
      refine x_gr tg_3 rfl (fx_3_0 hF) ?_
      refine x_gr tg_4 rfl (fx_4_0 hF) ?_
      refine x_iload_n rfl ?_
      refine x_aald (by rw [tg_5]; decide) (ln_5 L) (by omega) (fx_op hF hx) ?_
      refine x_V3v tg_110 (Nat.le_of_ble_eq_true rfl) (h1) ?_
      refine x_aload_n rfl ?_
      refine x_iload_n rfl ?_
      refine x_V2i tg_3 (Nat.le_of_ble_eq_true rfl) (hr) ?_
      exact rfl
    exact t_ireq (Or.inl rfl) rfl rfl
set_option maxRecDepth 10000 in
theorem s11_of_ok {d L : Nat} {I : Nat → Nat → Int} {R : Nat → Nat → Option Nat} {u : Int64} (hF : FixR R) (hB : Tbc I) (hS : Sn I) {s : Nat} (hs : s < 6) {q : Int} (hq : 0 ≤ q ∧ q ≤ 8) : am_run am_tb (d + 5) 100 [vR 3, vI s, vI q] (LH L I R u) = some ([vI (abt (I 4 2) (opc I s) q)], LH L I R u) := by
  refine run_of tb_X11_of (Nat.le_of_ble_eq_true rfl) ?_
  show ∃ ls', am_ev (am_run am_tb (d + 4)) tX11_of ([vR 3, vI s, vI q], [], (LH L I R u)) = some (1, ls', [vI (abt (I 4 2) (opc I s) q)], LH L I R u)
  have h0 := hS.2
  apply Exists.intro
  unfold tX11_of
  apply t_Q
  · apply t_S
    refine x_iload_n rfl ?_
    refine x_S1i (by decide) (Nat.le_of_ble_eq_true rfl) (ret_t (show 0 ≤ (s : Int) ∧ (s : Int) < 6 by omega) (s11_isOperator (d := d + 3) (by omega))) ?_
    exact rfl
  apply t_Q
  · apply t_K
    apply t_Qs
    apply t_Ks
    · apply t_Q
      · apply t_B
        · exact rfl
        exact t_if_eq_f (by omega)
      apply t_Q
      · apply t_B
        · refine x_iload_n rfl ?_
          exact rfl
        exact t_if_lt_f (by omega)
      apply t_B
      · refine x_iload_n rfl ?_
        refine x_bipush ?_
        exact rfl
      exact t_ic_le_t (by omega)
    · decide
  apply t_B
  · refine x_aload_n rfl ?_
    refine x_gr tg_3 rfl (fx_3_0 hF) ?_
    refine x_gr tg_4 rfl (fx_4_0 hF) ?_
    refine x_iload_n rfl ?_
    refine x_aald (by rw [tg_5]; decide) (ln_5 L) (by omega) (fx_op hF hs) ?_
    refine x_iload_n rfl ?_
    refine x_aload_n rfl ?_
    refine x_gr tg_3 rfl (fx_3_0 hF) ?_
    refine x_gi tg_4 rfl ?_
    refine x_V3i (op_st hF hs).1 (Nat.le_of_ble_eq_true rfl) (s6_property (d := d) hB.1 (op_st hF hs) (Sn_op hS hs) h0 hq) ?_
    exact rfl
  exact t_ireq (Or.inl rfl) rfl rfl
set_option maxRecDepth 10000 in
theorem s11_rate_ok {d L : Nat} {I : Nat → Nat → Int} {R : Nat → Nat → Option Nat} {u : Int64} (hF : FixR R) (hS : Sn I) {f m : Nat} (hf : f < 2) (hm : m ≤ 30) : am_run am_tb (d + 2) 103 [vR 3, vI f, vI m] (LH L I R u) = some ([vI (tl (snow I 4 (546 + 31 * f + m)))], LH L I R u) := by
  refine run_of tb_X11_rate (Nat.le_of_ble_eq_true rfl) ?_
  show ∃ ls', am_ev (am_run am_tb (d + 1)) tX11_rate ([vR 3, vI f, vI m], [], (LH L I R u)) = some (1, ls', [vI (tl (snow I 4 (546 + 31 * f + m)))], LH L I R u)
  have hr := Sn_po hS hf (n := m) (by omega)
  have e : snow I 4 (546 + 31 * f + m) = I (7 + f) m := by rw [snow_po hf (by omega), show 4 + 3 + f = 7 + f by omega]
  rw [e]
  apply Exists.intro
  unfold tX11_rate
  apply t_Q
  · apply t_S
    refine x_iload_n rfl ?_
    refine x_S1i (by decide) (Nat.le_of_ble_eq_true rfl) (ret_t (show 0 ≤ (f : Int) ∧ (f : Int) < 2 by omega) (s11_isPolynomial (d := d) (by omega))) ?_
    exact rfl
  apply t_Q
  · apply t_K
    apply t_Qs
    apply t_Ks
    · apply t_Q
      · apply t_B
        · exact rfl
        exact t_if_eq_f (by omega)
      apply t_B
      · refine x_iload_n rfl ?_
        refine x_S1i (by decide) (Nat.le_of_ble_eq_true rfl) (ret_t (show 0 ≤ (m : Int) ∧ (m : Int) ≤ 30 by omega) (s11_isPower (d := d) (by omega))) ?_
        exact rfl
      exact t_if_ne_t (by omega)
    · decide
  apply t_B
  · refine x_aload_n rfl ?_
    refine x_gr tg_3 rfl (fx_3_0 hF) ?_
    refine x_gr tg_4 rfl (fx_4_1 hF) ?_
    refine x_iload_n rfl ?_
    refine x_aald (by rw [tg_6]; decide) (ln_6 L) (by omega) (fx_po hF hf) ?_
    refine x_iload_n rfl ?_
    refine x_ialdv (Or.inl (po_st hf).1) ((po_st hf).2.1 L) (by omega) (show _ = I (7 + f) m from congrArg (I (7 + f)) (Int.toNat_natCast m)) ?_
    refine x_S1i (by decide) (Nat.le_of_ble_eq_true rfl) (s1_balanced (d := d) (by omega)) ?_
    exact rfl
  exact t_ireq (Or.inl rfl) rfl rfl
set_option maxRecDepth 10000 in
theorem s11_order_ok {d L : Nat} {I : Nat → Nat → Int} {R : Nat → Nat → Option Nat} {u : Int64} (hF : FixR R) (hB : Tbc I) (hS : Sn I) {t n : Nat} (hH : Hi I t n) {o : Int} (ho : o = 0 ∨ o = 1) : ∃ J, am_run am_tb (d + 4) 101 [vR 3, vI o] (LH L I R u) = some ([vI (I 4 2)], LH L J R u) ∧ Cw I J t n (au (snow I 4) 608 o) := by
  have ht := hH.2.1
  obtain ⟨K, ek, k1, k2, k3, k4⟩ := s5_keep (d := d + 0) (L := L) (u := u) hF hH.1 hH.2.1 hH.2.2.1 hH.2.2.2
  have e4 : K 4 = I 4 := k4 4 (by omega) (by omega)
  refine ⟨au K 4 (au (K 4) 2 o), ?_, Cw_k ht k1 k2 k3 k4 (fun a ha => au_n _ _ (by omega)) (snow_mk (fun r j hr hj => ?_) (fun g m hg hm => ?_) ?_)⟩
  · refine run_of tb_X11_order (Nat.le_of_ble_eq_true rfl) ?_
    show ∃ ls', am_ev (am_run am_tb (d + 3)) tX11_order ([vR 3, vI o, vU], [], LH L I R u) = _
    rcases ho with rfl | rfl
    · apply Exists.intro
      unfold tX11_order
      apply t_Q
      · apply t_S
        refine x_iload_n rfl ?_
        exact rfl
      apply t_Q
      · apply t_K
        apply t_Qs
        apply t_B
        · exact rfl
        exact t_if_eq_t (by omega)
      apply t_B
      · refine x_aload_n rfl ?_
        refine x_gr tg_3 rfl (fx_3_1 hF) ?_
        refine x_aload_n rfl ?_
        refine x_gr tg_3 rfl (fx_3_0 hF) ?_
        refine x_V2v tg_21 (Nat.le_of_ble_eq_true rfl) (ek) ?_
        refine x_aload_n rfl ?_
        refine x_gr tg_3 rfl (fx_3_0 hF) ?_
        refine x_giv tg_4 rfl (show _ = I 4 2 from congrFun e4 2) ?_
        refine x_istore_n rfl ?_
        refine x_aload_n rfl ?_
        refine x_gr tg_3 rfl (fx_3_0 hF) ?_
        refine x_iload_n rfl ?_
        refine x_pi tg_4 rfl rfl ?_
        refine x_iload_n rfl ?_
        exact rfl
      exact t_ireq (Or.inl rfl) rfl rfl
    · apply Exists.intro
      unfold tX11_order
      apply t_Q
      · apply t_S
        refine x_iload_n rfl ?_
        exact rfl
      apply t_Q
      · apply t_K
        apply t_Q
        · apply t_B
          · exact rfl
          exact t_if_eq_f (by omega)
        apply t_Qs
        apply t_B
        · refine x_iload_n rfl ?_
          refine x_iconst ?_
          exact rfl
        exact t_ic_eq_t (by omega)
      apply t_B
      · refine x_aload_n rfl ?_
        refine x_gr tg_3 rfl (fx_3_1 hF) ?_
        refine x_aload_n rfl ?_
        refine x_gr tg_3 rfl (fx_3_0 hF) ?_
        refine x_V2v tg_21 (Nat.le_of_ble_eq_true rfl) (ek) ?_
        refine x_aload_n rfl ?_
        refine x_gr tg_3 rfl (fx_3_0 hF) ?_
        refine x_giv tg_4 rfl (show _ = I 4 2 from congrFun e4 2) ?_
        refine x_istore_n rfl ?_
        refine x_aload_n rfl ?_
        refine x_gr tg_3 rfl (fx_3_0 hF) ?_
        refine x_iload_n rfl ?_
        refine x_pi tg_4 rfl rfl ?_
        refine x_iload_n rfl ?_
        exact rfl
      exact t_ireq (Or.inl rfl) rfl rfl
  · rw [au_i, if_neg (by omega), snow_op hr hj, au_n _ _ (by omega), k4 _ (by omega) (by omega)]
  · rw [au_i, if_neg (by omega), snow_po hg hm, au_n _ _ (by omega), k4 _ (by omega) (by omega)]
  · rw [au_i, if_pos rfl, au_s, au_s]
set_option maxRecDepth 10000 in
theorem s11_puts_ok {d L : Nat} {I : Nat → Nat → Int} {R : Nat → Nat → Option Nat} {u : Int64} (hF : FixR R) (hB : Tbc I) (hS : Sn I) {t n : Nat} (hH : Hi I t n) {f m : Nat} {c : Int} (hf : f < 2) (hm : m ≤ 30) (hc : inR c) : ∃ J, am_run am_tb (d + 4) 102 [vR 3, vI f, vI m, vI c] (LH L I R u) = some ([vI (tl (snow I 4 (546 + 31 * f + m)))], LH L J R u) ∧ Cw I J t n (au (snow I 4) (546 + 31 * f + m) (c % 10007)) := by
  have ht := hH.2.1
  obtain ⟨K, ek, k1, k2, k3, k4⟩ := s5_keep (d := d + 0) (L := L) (u := u) hF hH.1 hH.2.1 hH.2.2.1 hH.2.2.2
  have hr := Sn_po hS hf (n := m) (by omega)
  have e : snow I 4 (546 + 31 * f + m) = I (7 + f) m := by rw [snow_po hf (by omega), show 4 + 3 + f = 7 + f by omega]
  have e7 : K (7 + f) = I (7 + f) := k4 _ (by omega) (by omega)
  rw [e]
  refine ⟨au K (7 + f) (au (K (7 + f)) (m : Int).toNat (c % 10007)), ?_, Cw_k ht k1 k2 k3 k4 (fun a ha => au_n _ _ (by omega)) (snow_mk (fun r j hr2 hj => ?_) (fun g p hg hp => ?_) ?_)⟩
  · refine run_of tb_X11_puts (Nat.le_of_ble_eq_true rfl) ?_
    show ∃ ls', am_ev (am_run am_tb (d + 3)) tX11_puts ([vR 3, vI f, vI m, vI c, vU], [], LH L I R u) = _
    apply Exists.intro
    unfold tX11_puts
    apply t_Q
    · apply t_S
      refine x_iload_n rfl ?_
      refine x_S1i (by decide) (Nat.le_of_ble_eq_true rfl) (ret_t (show 0 ≤ (f : Int) ∧ (f : Int) < 2 by omega) (s11_isPolynomial (d := d + 2) (by omega))) ?_
      exact rfl
    apply t_Q
    · apply t_K
      apply t_Qs
      apply t_Ks
      · apply t_Q
        · apply t_B
          · exact rfl
          exact t_if_eq_f (by omega)
        apply t_B
        · refine x_iload_n rfl ?_
          refine x_S1i (by decide) (Nat.le_of_ble_eq_true rfl) (ret_t (show 0 ≤ (m : Int) ∧ (m : Int) ≤ 30 by omega) (s11_isPower (d := d + 2) (by omega))) ?_
          exact rfl
        exact t_if_ne_t (by omega)
      · decide
    apply t_B
    · refine x_aload_n rfl ?_
      refine x_gr tg_3 rfl (fx_3_1 hF) ?_
      refine x_aload_n rfl ?_
      refine x_gr tg_3 rfl (fx_3_0 hF) ?_
      refine x_V2v tg_21 (Nat.le_of_ble_eq_true rfl) (ek) ?_
      refine x_aload_n rfl ?_
      refine x_gr tg_3 rfl (fx_3_0 hF) ?_
      refine x_gr tg_4 rfl (fx_4_1 hF) ?_
      refine x_iload_n rfl ?_
      refine x_aald (by rw [tg_6]; decide) (ln_6 L) (by omega) (fx_po hF hf) ?_
      refine x_iload_n rfl ?_
      refine x_ialdv (Or.inl (po_st hf).1) ((po_st hf).2.1 L) (by omega) (show _ = I (7 + f) m from congrFun e7 m) ?_
      refine x_istore rfl ?_
      refine x_aload_n rfl ?_
      refine x_gr tg_3 rfl (fx_3_0 hF) ?_
      refine x_gr tg_4 rfl (fx_4_1 hF) ?_
      refine x_iload_n rfl ?_
      refine x_aald (by rw [tg_6]; decide) (ln_6 L) (by omega) (fx_po hF hf) ?_
      refine x_iload_n rfl ?_
      refine x_iload_n rfl ?_
      refine x_S1i (by decide) (Nat.le_of_ble_eq_true rfl) (s1_residue (d := d + 1) hc) ?_
      refine x_iast (po_st hf).1 ((po_st hf).2.1 L) (by omega) ?_
      refine x_iload rfl ?_
      refine x_S1i (by decide) (Nat.le_of_ble_eq_true rfl) (s1_balanced (d := d + 2) (by omega)) ?_
      exact rfl
    exact t_ireq (Or.inl rfl) rfl rfl
  · rw [au_i, if_neg (by omega), snow_op hr2 hj, au_n _ _ (by omega), k4 _ (by omega) (by omega)]
  · rw [Int.toNat_natCast]
    by_cases e1 : g = f
    · rw [e1, show 4 + 3 + f = 7 + f by omega, au_s, au_i, au_i]
      by_cases e2 : p = m
      · rw [if_pos e2, if_pos (by omega)]
      · rw [if_neg e2, if_neg (by omega), snow_po hf hp, e7, show 4 + 3 + f = 7 + f by omega]
    · rw [au_n _ _ (by omega), au_i, if_neg (by omega), snow_po hg hp, k4 _ (by omega) (by omega)]
  · rw [au_i, if_neg (by omega), snow_or, au_n _ _ (by omega), k4 _ (by omega) (by omega)]
