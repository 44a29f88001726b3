/-! The class: remainders, rest. Written by wip/whole/gen_95.py. -/
/-- the word of a rank -/
def unr (o : Int) (r : Nat) : Nat := wb o (wn r) (wn r - (r - tri (wn r)))
theorem rk_unr (o : Int) (r : Nat) : rk o (unr o r) = r := by
  have h := wn_b r
  rw [tri_s] at h
  unfold unr
  rw [rk_wb (by omega)]
  omega
theorem unr_rk (o : Int) (w : Nat) : unr o (rk o w) = w := rk_inj (rk_unr o (rk o w))
theorem rk_91 {o : Int} {w : Nat} (h : w < 91) : rk o w < 91 := by
  have h1 := wn_12 h
  have h2 := (rk_b o w).2
  have h3 := tri_m (show wn w + 1 ≤ 13 by omega)
  rw [tri_13] at h3
  omega
theorem unr_91 {o : Int} {r : Nat} (h : r < 91) : unr o r < 91 := by
  have e : wn (unr o r) = wn r := by rw [← rk_wn o (unr o r), rk_unr]
  have h1 := wn_12 h
  have h2 := xw_dw (unr o r)
  have := pl_91 (i := xw (unr o r)) (j := dw (unr o r)) (by omega)
  rw [pl_w] at this
  exact this
theorem unr_wb {o : Int} {D k : Nat} (hk : k ≤ D) : unr o (tri (D + 1) - 1 - k) = wb o D k := by
  refine rk_inj (o := o) ?_
  rw [rk_unr, rk_wb hk, tri_s]
  omega
def rdS (ld : Nat → Nat) (b : Nat) (B : Nat → Nat → Int) (f : Nat → Int) (w : Nat) : Nat → Int := if f w = 0 then f else cnS ld b B f w
/-- remainders: the words from the greatest on -/
def rdI (o : Int) (ld : Nat → Nat) (b : Nat) (B : Nat → Nat → Int) (f : Nat → Int) : Nat → Nat → Int
  | 0 => f
  | t + 1 => rdS ld b B (rdI o ld b B f t) (unr o (90 - t))
theorem rdI_b {o : Int} {ld : Nat → Nat} {b : Nat} {B : Nat → Nat → Int} {f : Nat → Int} (hf : ∀ v, v < 91 → 0 ≤ f v ∧ f v < 10007) (t : Nat) : ∀ v, v < 91 → 0 ≤ rdI o ld b B f t v ∧ rdI o ld b B f t v < 10007 := by
  induction t with
  | zero => exact hf
  | succ t ih =>
    intro v hv
    show 0 ≤ rdS ld b B (rdI o ld b B f t) (unr o (90 - t)) v ∧ rdS ld b B (rdI o ld b B f t) (unr o (90 - t)) v < 10007
    unfold rdS
    split
    · exact ih v hv
    · exact cnS_b ih v hv
theorem rdI_skip {o : Int} {ld : Nat → Nat} {b T : Nat} {B : Nat → Nat → Int} {f : Nat → Int} (hT : T ≤ 91) (hf : ∀ w, w < 91 → T ≤ rk o w → f w = 0) {t : Nat} (ht : t ≤ 91 - T) : rdI o ld b B f t = f := by
  induction t with
  | zero => rfl
  | succ t ih =>
    show rdS ld b B (rdI o ld b B f t) (unr o (90 - t)) = f
    rw [ih (by omega)]
    exact if_pos (hf _ (unr_91 (by omega)) (by rw [rk_unr]; omega))
theorem cnS_c {ld : Nat → Nat} {b w : Nat} {B B' : Nat → Nat → Int} {f f' : Nat → Int} (hB : ∀ j, j < b → B j = B' j) (hw : w < 91) (hf : ∀ v, v < 91 → f v = f' v) : ∀ v, v < 91 → cnS ld b B f w v = cnS ld b B' f' w v := by
  intro v hv
  unfold cnS
  by_cases e : fbl ld b w < b
  · rw [if_pos e, if_pos e]
    show (f v + (10007 - f w) * inv (B (fbl ld b w) (ld (fbl ld b w))) % 10007 * cor _ _ (B (fbl ld b w)) 496 v) % 10007 = (f' v + (10007 - f' w) * inv (B' (fbl ld b w) (ld (fbl ld b w))) % 10007 * cor _ _ (B' (fbl ld b w)) 496 v) % 10007
    rw [hB _ e, hf v hv, hf w hw]
  · rw [if_neg e, if_neg e]; exact hf v hv
set_option maxRecDepth 10000 in
theorem lp4_redi {d L : Nat} {I : Nat → Nat → Int} {R : Nat → Nat → Option Nat} {u : Int64} (hF : FixR R) (hB : Tbc I) {o : Int} (h0 : o = 0 ∨ o = 1) {b : Nat} {op ld : Nat → Nat} (hD : Dvc I R o b op ld) {t c : Nat} (ht : Opx R t c) (hc2 : c < 159 ∨ 164 < c) (hN : Nt c) (hop : ∀ j, j < b → op j + 1 ≠ c) (hr : Rsc I c) {D : Nat} (hD12 : D ≤ 12) {w4 : am_V} : ∃ x, am_lp (am_ev (am_run am_tb (d + 3)) wX4_reduce_11) 11 am_F ([vR 159, vR t, vI D, vI 0, w4], [], LH L (stc I c (rdI o ld b (fun j => cl I (op j + 1)) (I c) (91 - tri (D + 1)))) R u) = some x ∧ ∃ l4, x = (52, [vR 159, vR t, vI D, vI ((D + 1 : Nat) : Int), l4], [], LH L (stc I c (rdI o ld b (fun j => cl I (op j + 1)) (I c) (91 - tri D))) R u) := by
  have htr := tri_m (show D + 1 ≤ 13 by omega)
  rw [tri_13] at htr
  have hts := tri_s D
  refine lp_inv (fun k y => ∃ l4, y = ([vR 159, vR t, vI D, vI k, l4], [], LH L (stc I c (rdI o ld b (fun j => cl I (op j + 1)) (I c) (91 - tri (D + 1) + k))) R u)) _ (D + 1) ⟨_, rfl⟩ (ltF (by omega)) (fun k y hk hy => ?_) (fun y hy => ?_)
  · obtain ⟨l4, e0⟩ := hy
    subst e0
    have hD2 : Dvc (stc I c (rdI o ld b (fun j => cl I (op j + 1)) (I c) (91 - tri (D + 1) + k))) R o b op ld := Dvc_J hD hc2 hop (fun a ha => stc_o ha)
    have hwb : wb o D k < 91 := by
      rw [← unr_wb (by omega)]; exact unr_91 (by omega)
    have hrb := rdI_b (o := o) (ld := ld) (b := b) (B := fun j => cl I (op j + 1)) hr (91 - tri (D + 1) + k)
    have hrw := hrb _ hwb
    have hstep : ∀ v, rdI o ld b (fun j => cl I (op j + 1)) (I c) (91 - tri (D + 1) + (k + 1)) v = rdS ld b (fun j => cl I (op j + 1)) (rdI o ld b (fun j => cl I (op j + 1)) (I c) (91 - tri (D + 1) + k)) (wb o D k) v := fun v => by
      rw [← unr_wb (o := o) (show k ≤ D by omega), show tri (D + 1) - 1 - k = 90 - (91 - tri (D + 1) + k) by omega]
      rfl
    by_cases q0 : rdI o ld b (fun j => cl I (op j + 1)) (I c) (91 - tri (D + 1) + k) (wb o D k) = 0
    · have hg : (stc I c (rdI o ld b (fun j => cl I (op j + 1)) (I c) (91 - tri (D + 1) + k))) = (stc I c (rdI o ld b (fun j => cl I (op j + 1)) (I c) (91 - tri (D + 1) + (k + 1)))) := stc_c (fun v hv => by rw [hstep]; unfold rdS; rw [if_pos q0])
      refine inv_e1 (ls := fun l4 => [vR 159, vR t, vI D, vI ((k + 1 : Nat) : Int), l4]) (h := LH L (stc I c (rdI o ld b (fun j => cl I (op j + 1)) (I c) (91 - tri (D + 1) + (k + 1)))) R u) ?_ (fun _ => ⟨_, rfl⟩)
      apply Exists.intro
      rw [← hg]
      unfold wX4_reduce_11
      apply t_Q
      · apply t_B
        · refine x_iload_n rfl ?_
          refine x_iload_n rfl ?_
          exact rfl
        exact t_ic_gt_f (by omega)
      apply t_Q
      · apply t_S
        refine x_aload_n rfl ?_
        refine x_giv tg_159 rfl (show _ = o from hD2.2.1) ?_
        refine x_iload_n rfl ?_
        refine x_iload_n rfl ?_
        refine x_S3i (by decide) (Nat.le_of_ble_eq_true rfl) (s6_rankedPlace (d := d + 1) h0 (n := D) (k := k) (by omega) (by omega)) ?_
        refine x_istore rfl ?_
        refine x_aload_n rfl ?_
        refine x_gr ht.1 rfl ht.2.1 ?_
        refine x_iload rfl ?_
        refine x_ialdv (Or.inl ht.2.2.1) (ht.2.2.2 L) (by omega) (show _ = rdI o ld b (fun j => cl I (op j + 1)) (I c) (91 - tri (D + 1) + k) (wb o D k) from stc_s hwb) ?_
        exact rfl
      apply t_Q
      · apply t_K
        apply t_Qs
        apply t_B
        · exact rfl
        exact t_if_eq_t (by omega)
      apply t_B
      · refine x_iinc rfl rfl ?_
        exact rfl
      exact t_goeq rfl
    · have hcn := s4_cancel (d := d) (L := L) (u := u) hF (Tbc_s hB hN) hD2 ht hc2 hN hop (w := wb o D k) (fun v hv => by rw [stc_s hv]; exact hrb v hv) hwb
      replace hcn := ev_c hcn (show _ = (stc I c (rdI o ld b (fun j => cl I (op j + 1)) (I c) (91 - tri (D + 1) + (k + 1)))) from stc_stc.trans (stc_c (fun v hv => by
        rw [hstep]
        unfold rdS
        rw [if_neg q0]
        exact cnS_c (fun j hj => cl_o (stc_o (hop j hj))) hwb (fun v hv => stc_s hv) v hv)))
      refine inv_e1 (ls := fun l4 => [vR 159, vR t, vI D, vI ((k + 1 : Nat) : Int), l4]) (h := LH L (stc I c (rdI o ld b (fun j => cl I (op j + 1)) (I c) (91 - tri (D + 1) + (k + 1)))) R u) ?_ (fun _ => ⟨_, rfl⟩)
      apply Exists.intro
      unfold wX4_reduce_11
      apply t_Q
      · apply t_B
        · refine x_iload_n rfl ?_
          refine x_iload_n rfl ?_
          exact rfl
        exact t_ic_gt_f (by omega)
      apply t_Q
      · apply t_S
        refine x_aload_n rfl ?_
        refine x_giv tg_159 rfl (show _ = o from hD2.2.1) ?_
        refine x_iload_n rfl ?_
        refine x_iload_n rfl ?_
        refine x_S3i (by decide) (Nat.le_of_ble_eq_true rfl) (s6_rankedPlace (d := d + 1) h0 (n := D) (k := k) (by omega) (by omega)) ?_
        refine x_istore rfl ?_
        refine x_aload_n rfl ?_
        refine x_gr ht.1 rfl ht.2.1 ?_
        refine x_iload rfl ?_
        refine x_ialdv (Or.inl ht.2.2.1) (ht.2.2.2 L) (by omega) (show _ = rdI o ld b (fun j => cl I (op j + 1)) (I c) (91 - tri (D + 1) + k) (wb o D k) from stc_s hwb) ?_
        exact rfl
      apply t_Q
      · apply t_Ks
        · apply t_Q
          · apply t_B
            · exact rfl
            exact t_if_eq_f (by omega)
          apply t_S
          refine x_aload_n rfl ?_
          refine x_aload_n rfl ?_
          refine x_iload rfl ?_
          refine x_V3v tg_159 (Nat.le_of_ble_eq_true rfl) (hcn) ?_
          exact rfl
        · decide
      apply t_B
      · refine x_iinc rfl rfl ?_
        exact rfl
      exact t_goeq rfl
  · obtain ⟨l4, e0⟩ := hy
    subst e0
    refine ⟨(52, [vR 159, vR t, vI D, vI ((D + 1 : Nat) : Int), l4], [], LH L (stc I c (rdI o ld b (fun j => cl I (op j + 1)) (I c) (91 - tri (D + 1) + (D + 1)))) R u), ?_, by show ¬ 52 = 11 + 2; decide, ⟨l4, by rw [show 91 - tri (D + 1) + (D + 1) = 91 - tri D by omega]⟩⟩
    unfold wX4_reduce_11
    apply t_Qs
    apply t_B
    · refine x_iload_n rfl ?_
      refine x_iload_n rfl ?_
      exact rfl
    exact t_ic_gt_t (by omega)
set_option maxRecDepth 10000 in
theorem lp4_redo {d L : Nat} {I : Nat → Nat → Int} {R : Nat → Nat → Option Nat} {u : Int64} (hF : FixR R) (hB : Tbc I) {o : Int} (h0 : o = 0 ∨ o = 1) {b : Nat} {op ld : Nat → Nat} (hD : Dvc I R o b op ld) {t c : Nat} (ht : Opx R t c) (hc2 : c < 159 ∨ 164 < c) (hN : Nt c) (hop : ∀ j, j < b → op j + 1 ≠ c) (hr : Rsc I c) {N : Nat} (hN13 : N ≤ 13) (hz : ∀ w, w < 91 → tri N ≤ rk o w → I c w = 0) : ∃ x, am_lp (am_ev (am_run am_tb (d + 3)) wX4_reduce_5) 5 am_F ([vR 159, vR t, vI ((N : Int) - 1), vU, vU], [], LH L I R u) = some x ∧ ∃ ls, x = (58, ls, [], LH L (stc I c (rdI o ld b (fun j => cl I (op j + 1)) (I c) (91))) R u) := by
  have htr := tri_m hN13
  rw [tri_13] at htr
  refine lp_inv (fun i y => ∃ l3 l4, y = ([vR 159, vR t, vI ((N : Int) - 1 - (i : Int)), l3, l4], [], LH L (stc I c (rdI o ld b (fun j => cl I (op j + 1)) (I c) (91 - tri (N - i)))) R u)) _ N ⟨vU, vU, ?_⟩ (ltF (by omega)) (fun i y hi hy => ?_) (fun y hy => ?_)
  · refine s3 (by rw [show (N : Int) - 1 - ((0 : Nat) : Int) = (N : Int) - 1 by omega]) (stc_id (fun v hv => ?_)).symm
    rw [rdI_skip htr hz (by rw [Nat.sub_zero]; omega)]
  · obtain ⟨l3, l4, e0⟩ := hy
    subst e0
    obtain ⟨x, hl, m4, ex⟩ := lp4_redi (d := d) (L := L) (u := u) hF hB h0 hD ht hc2 hN hop hr (D := N - 1 - i) (by omega) (w4 := l4)
    subst ex
    rw [show N - 1 - i + 1 = N - i by omega] at hl
    rw [show (N : Int) - 1 - (i : Int) = ((N - 1 - i : Nat) : Int) by omega]
    refine ⟨([vR 159, vR t, vI (((N - 1 - i : Nat) : Int) + -1), vI ((N - i : Nat) : Int), m4], [], LH L (stc I c (rdI o ld b (fun j => cl I (op j + 1)) (I c) (91 - tri (N - 1 - i)))) R u), ?_, ⟨_, _, s3 (by rw [show ((N - 1 - i : Nat) : Int) + -1 = (N : Int) - 1 - ((i + 1 : Nat) : Int) by omega]) (by rw [show N - (i + 1) = N - 1 - i by omega])⟩⟩
    unfold wX4_reduce_5
    apply t_Q
    · apply t_B
      · refine x_iload_n rfl ?_
        exact rfl
      exact t_if_lt_f (by omega)
    apply t_Q
    · apply t_S
      refine x_iconst ?_
      refine x_istore_n rfl ?_
      exact rfl
    apply t_Q
    · apply t_K
      apply t_W
      exact hl
    apply t_B
    · refine x_iinc rfl rfl ?_
      exact rfl
    exact t_goeq rfl
  · obtain ⟨l3, l4, e0⟩ := hy
    subst e0
    refine ⟨(58, [vR 159, vR t, vI ((N : Int) - 1 - (N : Int)), l3, l4], [], LH L (stc I c (rdI o ld b (fun j => cl I (op j + 1)) (I c) (91 - tri (N - N)))) R u), ?_, by show ¬ 58 = 5 + 2; decide, ⟨_, by rw [Nat.sub_self, show 91 - tri 0 = 91 from rfl]⟩⟩
    unfold wX4_reduce_5
    apply t_Qs
    apply t_B
    · refine x_iload_n rfl ?_
      exact rfl
    exact t_if_lt_t (by omega)
set_option maxRecDepth 10000 in
theorem s4_reduce {d L : Nat} {I : Nat → Nat → Int} {R : Nat → Nat → Option Nat} {u : Int64} (hF : FixR R) (hB : Tbc I) {o : Int} (h0 : o = 0 ∨ o = 1) {b : Nat} {op ld : Nat → Nat} (hD : Dvc I R o b op ld) {t c : Nat} (ht : Opx R t c) (hc2 : c < 159 ∨ 164 < c) (hN : Nt c) (hop : ∀ j, j < b → op j + 1 ≠ c) (hr : Rsc I c) : am_run am_tb (d + 4) 39 [vR 159, vR t] (LH L I R u) = some ([], LH L (stc I c (rdI o ld b (fun j => cl I (op j + 1)) (I c) (91))) R u) := by
  refine run_of tb_X4_reduce (Nat.le_of_ble_eq_true rfl) ?_
  show ∃ ls', am_ev (am_run am_tb (d + 3)) tX4_reduce ([vR 159, vR t, vU, vU, vU], [], (LH L I R u)) = some (1, ls', [], LH L (stc I c (rdI o ld b (fun j => cl I (op j + 1)) (I c) (91))) R u)
  have hdb := dgr_b (cl I c)
  have hd12 := clD (I := I) (c := c)
  obtain ⟨N, hNd⟩ : ∃ N : Nat, (N : Int) = dgr (cl I c) + 1 := ⟨(dgr (cl I c) + 1).toNat, by omega⟩
  obtain ⟨x, hl, ls, ex⟩ := lp4_redo (d := d) (L := L) (u := u) hF hB h0 hD ht hc2 hN hop hr (N := N) (by omega) (fun w hw hrk => by
    have h1 := dgr_z (f := cl I c) (w := w) (by omega) (by
      have h2 := (rk_b o w).2
      have h3 : ¬ wn w < N := fun z => by
        have := tri_m (show wn w + 1 ≤ N by omega)
        omega
      omega)
    rw [cl_s hw] at h1
    exact h1)
  subst ex
  have hdg := s6_degree (d := d + 1) (L := L) (u := u) hB.1 ht hr
  rw [show dgr (cl I c) = (N : Int) - 1 by omega] at hdg
  apply Exists.intro
  unfold tX4_reduce
  apply t_Q
  · apply t_S
    refine x_aload_n rfl ?_
    refine x_V1i ht.1 (Nat.le_of_ble_eq_true rfl) (hdg) ?_
    refine x_istore_n rfl ?_
    exact rfl
  apply t_Q
  · apply t_K
    apply t_W
    exact hl
  apply t_B
  · exact rfl
  exact rfl
set_option maxRecDepth 10000 in
theorem lp11_rz {d L : Nat} {I : Nat → Nat → Int} {R : Nat → Nat → Option Nat} {u : Int64} (hF : FixR R) (hB : Tbc I) (hS : Sn I) {q : Int} (hq : 0 < q ∧ q < 64) {s x n : Nat} (hn : n ≤ 6) (hz : ∀ k, k < n → shf q k % 2 = 1 → ¬ dgr (opc I k) < 0) {k : Nat} (hk' : k < n) : am_ev (am_run am_tb (d + 2)) wX11_rest_29 ([vR 3, vI s, vI x, vI q, vI k], [], LH L I R u) = some (29 + 2, [vR 3, vI s, vI x, vI q, vI ((k + 1 : Nat) : Int)], [], LH L I R u) := by
  have hk : k < 6 := by omega
  by_cases c1 : shf q k % 2 = 1
  · have c2 := hz k hk' c1
    unfold wX11_rest_29
    apply t_Q
    · apply t_B
      · refine x_iload rfl ?_
        refine x_bipush ?_
        exact rfl
      exact t_ic_ge_f (by omega)
    apply t_Q
    · apply t_S
      refine x_iload_n rfl ?_
      refine x_iload rfl ?_
      refine x_S2i (by decide) (Nat.le_of_ble_eq_true rfl) (ret_t c1 (s11_isInSet (d := d + 1) (q := q) (by omega) (k := k) (by omega))) ?_
      exact rfl
    apply t_Q
    · apply t_K
      apply t_Q
      · apply t_B
        · exact rfl
        exact t_if_eq_f (by omega)
      apply t_Qs
      apply t_B
      · refine x_aload_n rfl ?_
        refine x_gr tg_3 rfl (fx_3_0 hF) ?_
        refine x_gr tg_4 rfl (fx_4_0 hF) ?_
        refine x_iload rfl ?_
        refine x_aald (by rw [tg_5]; decide) (ln_5 L) (by omega) (fx_op hF hk : R 5 k = some (9 + 2 * k)) ?_
        refine x_V1i (op_st hF hk).1 (Nat.le_of_ble_eq_true rfl) (ret_f c2 (s6_isZero (d := d) (op_st hF hk) (Sn_op hS hk))) ?_
        exact rfl
      exact t_if_eq_t (by omega)
    apply t_B
    · refine x_iinc rfl rfl ?_
      exact rfl
    exact t_goeq rfl
  · skip
    unfold wX11_rest_29
    apply t_Q
    · apply t_B
      · refine x_iload rfl ?_
        refine x_bipush ?_
        exact rfl
      exact t_ic_ge_f (by omega)
    apply t_Q
    · apply t_S
      refine x_iload_n rfl ?_
      refine x_iload rfl ?_
      refine x_S2i (by decide) (Nat.le_of_ble_eq_true rfl) (ret_f c1 (s11_isInSet (d := d + 1) (q := q) (by omega) (k := k) (by omega))) ?_
      exact rfl
    apply t_Q
    · apply t_K
      apply t_Qs
      apply t_B
      · exact rfl
      exact t_if_eq_t (by omega)
    apply t_B
    · refine x_iinc rfl rfl ?_
      exact rfl
    exact t_goeq rfl
set_option maxRecDepth 10000 in
theorem s11_rest_no {d L : Nat} {I : Nat → Nat → Int} {R : Nat → Nat → Option Nat} {u : Int64} (hF : FixR R) (hB : Tbc I) (hS : Sn I) {q : Int} (hq : 0 < q ∧ q < 64) {s x z : Nat} (hs : s < 6) (hx : x < 6) (hz0 : z < 6) (hzm : shf q z % 2 = 1) (hzz : dgr (opc I z) < 0) (hz : ∀ k, k < z → shf q k % 2 = 1 → ¬ dgr (opc I k) < 0) : am_run am_tb (d + 3) 107 [vR 3, vI s, vI x, vI q] (LH L I R u) = some ([vI (-20003)], LH L (rc I 1) R u) := by
  have hl : am_lp (am_ev (am_run am_tb (d + 2)) wX11_rest_29) 29 am_F ([vR 3, vI s, vI x, vI q, vI 0], [], LH L I R u) = some (1, [vR 3, vI s, vI x, vI q, vI z], [vI (-20003)], LH L (rc I 1) R u) := by
    refine lp_up0 (fun k => ([vR 3, vI s, vI x, vI q, vI k], [], LH L I R u)) z rfl (ltF (by omega)) (by show ¬ 1 = 29 + 2; decide) (fun k hk => lp11_rz hF hB hS hq (by omega) hz hk) ?_
    have c1 := hzm
    have c2 := hzz
    unfold wX11_rest_29
    apply t_Q
    · apply t_B
      · refine x_iload rfl ?_
        refine x_bipush ?_
        exact rfl
      exact t_ic_ge_f (by omega)
    apply t_Q
    · apply t_S
      refine x_iload_n rfl ?_
      refine x_iload rfl ?_
      refine x_S2i (by decide) (Nat.le_of_ble_eq_true rfl) (ret_t c1 (s11_isInSet (d := d + 1) (q := q) (by omega) (k := z) (by omega))) ?_
      exact rfl
    apply t_Qs
    apply t_Ks
    · apply t_Q
      · apply t_B
        · exact rfl
        exact t_if_eq_f (by omega)
      apply t_Q
      · apply t_B
        · refine x_aload_n rfl ?_
          refine x_gr tg_3 rfl (fx_3_0 hF) ?_
          refine x_gr tg_4 rfl (fx_4_0 hF) ?_
          refine x_iload rfl ?_
          refine x_aald (by rw [tg_5]; decide) (ln_5 L) (by omega) (fx_op hF hz0 : R 5 z = some (9 + 2 * z)) ?_
          refine x_V1i (op_st hF hz0).1 (Nat.le_of_ble_eq_true rfl) (ret_t c2 (s6_isZero (d := d) (op_st hF hz0) (Sn_op hS hz0))) ?_
          exact rfl
        exact t_if_eq_f (by omega)
      apply t_B
      · refine x_aload_n rfl ?_
        refine x_V1i tg_3 (Nat.le_of_ble_eq_true rfl) (s11_no (d := d + 1) hF) ?_
        exact rfl
      exact t_ireq (Or.inl rfl) rfl rfl
    · decide
  refine run_of tb_X11_rest (Nat.le_of_ble_eq_true rfl) ?_
  show ∃ ls', am_ev (am_run am_tb (d + 2)) tX11_rest ([vR 3, vI s, vI x, vI q, vU], [], LH L I R u) = _
  apply Exists.intro
  unfold tX11_rest
  apply t_Q
  · apply t_S
    refine x_iload_n rfl ?_
    refine x_S1i (by decide) (Nat.le_of_ble_eq_true rfl) (ret_t (show 0 ≤ (s : Int) ∧ (s : Int) < 6 by omega) (s11_isOperator (d := d + 1) (by omega))) ?_
    exact rfl
  apply t_Q
  · apply t_K
    apply t_Qs
    apply t_Ks
    · apply t_Q
      · apply t_B
        · exact rfl
        exact t_if_eq_f (by omega)
      apply t_Q
      · apply t_B
        · refine x_iload_n rfl ?_
          refine x_S1i (by decide) (Nat.le_of_ble_eq_true rfl) (ret_t (show 0 ≤ (x : Int) ∧ (x : Int) < 6 by omega) (s11_isOperator (d := d + 1) (by omega))) ?_
          exact rfl
        exact t_if_eq_f (by omega)
      apply t_B
      · refine x_iload_n rfl ?_
        refine x_S1i (by decide) (Nat.le_of_ble_eq_true rfl) (ret_t (show 0 < (q : Int) ∧ (q : Int) < 64 by omega) (s11_isSet (d := d + 1) (by omega))) ?_
        exact rfl
      exact t_if_ne_t (by omega)
    · decide
  apply t_Q
  · apply t_S
    refine x_iconst ?_
    refine x_istore rfl ?_
    exact rfl
  apply t_Qs
  apply t_Ks
  · apply t_W
    exact hl
  · decide
set_option maxRecDepth 10000 in
theorem lp11_rt {d L : Nat} {I : Nat → Nat → Int} {R : Nat → Nat → Option Nat} {u : Int64} (hF : FixR R) (hB : Tbc I) (hS : Sn I) {q : Int} (hq : 0 < q ∧ q < 64) {s x : Nat} {I1 : Nat → Nat → Int} (h1 : ∀ y, y < 159 ∨ 164 < y → I1 y = I y) (hD0 : Dvc I1 R (I 4 2) 0 (fun j => 9 + 2 * mbE q 0 j) (fun j => lw (I 4 2) (opc I (mbE q 0 j)))) (hz : ∀ k, k < 6 → shf q k % 2 = 1 → ¬ dgr (opc I k) < 0) : ∃ y, am_lp (am_ev (am_run am_tb (d + 4)) wX11_rest_89) 89 am_F ([vR 3, vI s, vI x, vI q, vI 0], [], LH L I1 R u) = some y ∧ ∃ J R', y = (130, [vR 3, vI s, vI x, vI q, vI 6], [], LH L J R' u) ∧ Dvc J R' (I 4 2) (mbN q 6) (fun j => 9 + 2 * mbE q 6 j) (fun j => lw (I 4 2) (opc I (mbE q 6 j))) ∧ (∀ y, y < 159 ∨ 164 < y → J y = I y) ∧ ∀ y, y ≠ 160 → R' y = R y := by
  have h0 := hS.2
  refine lp_inv (fun k y => ∃ J R', y = ([vR 3, vI s, vI x, vI q, vI k], [], LH L J R' u) ∧ Dvc J R' (I 4 2) (mbN q k) (fun j => 9 + 2 * mbE q k j) (fun j => lw (I 4 2) (opc I (mbE q k j))) ∧ (∀ y, y < 159 ∨ 164 < y → J y = I y) ∧ ∀ y, y ≠ 160 → R' y = R y) _ 6 ⟨I1, R, rfl, hD0, h1, fun y _ => rfl⟩ (ltF (by omega)) (fun k y hk hy => ?_) (fun y hy => ?_)
  · obtain ⟨J, R', e0, hD, j1, j2⟩ := hy
    subst e0
    have hF2 : FixR R' := FixR_m hF (fun a h _ _ => j2 a h)
    have hB2 : Tbc J := Tbc_o hB (fun a ha => j1 a (by unfold Nt at ha; omega))
    by_cases c1 : shf q k % 2 = 1
    · have hnz := hz k hk c1
      have ec : J (10 + 2 * k) = I (10 + 2 * k) := j1 _ (by omega)
      have hlw := lw_ok (o := I 4 2) (f := opc I k) (fun z => hnz (dgr_neg.mpr z))
      have e10 : 9 + 2 * k + 1 = 10 + 2 * k := by omega
      obtain ⟨J2, R2, htk, hD2, t1, t2⟩ := s4_take (d := d) (L := L) (u := u) (I := J) hF2 hB2 h0 hD (by have := mbN_le q k; omega) (a := 9 + 2 * k) (w := lw (I 4 2) (opc I k)) (by rw [e10]; exact op_st hF2 hk) (by omega) (by rw [e10]; exact fun j hj => by rw [ec]; exact Sn_op hS hk j hj) (by rw [e10, cl_o ec]; exact hlw.2.1)
      have eN : mbN q (k + 1) = mbN q k + 1 := if_pos c1
      have eE : mbE q (k + 1) = au (mbE q k) (mbN q k) k := if_pos c1
      refine ⟨([vR 3, vI s, vI x, vI q, vI ((k + 1 : Nat) : Int)], [], LH L J2 R2 u), ?_, J2, R2, rfl, ?_, fun y hy => (t1 y hy).trans (j1 y hy), fun y hy => (t2 y hy).trans (j2 y hy)⟩
      · unfold wX11_rest_89
        apply t_Q
        · apply t_B
          · refine x_iload rfl ?_
            refine x_bipush ?_
            exact rfl
          exact t_ic_ge_f (by omega)
        apply t_Q
        · apply t_S
          refine x_iload_n rfl ?_
          refine x_iload rfl ?_
          refine x_S2i (by decide) (Nat.le_of_ble_eq_true rfl) (ret_t c1 (s11_isInSet (d := d + 3) (q := q) (by omega) (k := k) (by omega))) ?_
          exact rfl
        apply t_Q
        · apply t_Ks
          · apply t_Q
            · apply t_B
              · exact rfl
              exact t_if_eq_f (by omega)
            apply t_S
            refine x_aload_n rfl ?_
            refine x_gr tg_3 rfl (fx_3_4 hF2) ?_
            refine x_aload_n rfl ?_
            refine x_gr tg_3 rfl (fx_3_0 hF2) ?_
            refine x_gr tg_4 rfl (fx_4_0 hF2) ?_
            refine x_iload rfl ?_
            refine x_aald (by rw [tg_5]; decide) (ln_5 L) (by omega) (fx_op hF2 hk : R' 5 k = some (9 + 2 * k)) ?_
            refine x_V2v tg_159 (Nat.le_of_ble_eq_true rfl) (htk) ?_
            exact rfl
          · decide
        apply t_B
        · refine x_iinc rfl rfl ?_
          exact rfl
        exact t_goeq rfl
      · rw [eN, eE]
        refine Dvc_c hD2 (fun j hj => ?_) (fun j hj => ?_)
        · by_cases e : j = mbN q k
          · rw [e, au_s, au_s]
          · rw [au_n _ _ e, au_n _ _ e]
        · by_cases e : j = mbN q k
          · rw [e, au_s, au_s]
          · rw [au_n _ _ e, au_n _ _ e]
    · have eN : mbN q (k + 1) = mbN q k := if_neg c1
      have eE : mbE q (k + 1) = mbE q k := if_neg c1
      refine ⟨([vR 3, vI s, vI x, vI q, vI ((k + 1 : Nat) : Int)], [], LH L J R' u), ?_, J, R', rfl, by rw [eN, eE]; exact hD, j1, j2⟩
      unfold wX11_rest_89
      apply t_Q
      · apply t_B
        · refine x_iload rfl ?_
          refine x_bipush ?_
          exact rfl
        exact t_ic_ge_f (by omega)
      apply t_Q
      · apply t_S
        refine x_iload_n rfl ?_
        refine x_iload rfl ?_
        refine x_S2i (by decide) (Nat.le_of_ble_eq_true rfl) (ret_f c1 (s11_isInSet (d := d + 3) (q := q) (by omega) (k := k) (by omega))) ?_
        exact rfl
      apply t_Q
      · apply t_K
        apply t_Qs
        apply t_B
        · exact rfl
        exact t_if_eq_t (by omega)
      apply t_B
      · refine x_iinc rfl rfl ?_
        exact rfl
      exact t_goeq rfl
  · obtain ⟨J, R', e0, h⟩ := hy
    subst e0
    refine ⟨(130, [vR 3, vI s, vI x, vI q, vI 6], [], LH L J R' u), ?_, by show ¬ 130 = 89 + 2; decide, J, R', rfl, h⟩
    unfold wX11_rest_89
    apply t_Qs
    apply t_B
    · refine x_iload rfl ?_
      refine x_bipush ?_
      exact rfl
    exact t_ic_ge_t (by omega)
/-- the remainder, as a row -/
def rdC (o : Int) (ld : Nat → Nat) (b : Nat) (B : Nat → Nat → Int) (f : Nat → Int) : Nat → Int := fun w => if w < 91 then rdI o ld b B f 91 w else 0
theorem rdI_c {o : Int} {ld : Nat → Nat} {b : Nat} {B B' : Nat → Nat → Int} {f f' : Nat → Int} (hB : ∀ j, j < b → B j = B' j) (hf : ∀ v, v < 91 → f v = f' v) (t : Nat) (ht : t ≤ 91) : ∀ v, v < 91 → rdI o ld b B f t v = rdI o ld b B' f' t v := by
  induction t with
  | zero => exact hf
  | succ t ih =>
    intro v hv
    have i := ih (by omega)
    have hw : unr o (90 - t) < 91 := unr_91 (by omega)
    show rdS ld b B (rdI o ld b B f t) (unr o (90 - t)) v = rdS ld b B' (rdI o ld b B' f' t) (unr o (90 - t)) v
    unfold rdS
    by_cases e : rdI o ld b B f t (unr o (90 - t)) = 0
    · rw [if_pos e, if_pos (by rw [← i _ hw]; exact e)]; exact i v hv
    · rw [if_neg e, if_neg (by rw [← i _ hw]; exact e)]; exact cnS_c hB hw i v hv
theorem rdC_b {o : Int} {ld : Nat → Nat} {b : Nat} {B : Nat → Nat → Int} {f : Nat → Int} (hf : ∀ v, v < 91 → 0 ≤ f v ∧ f v < 10007) (v : Nat) : 0 ≤ rdC o ld b B f v ∧ rdC o ld b B f v < 10007 := by
  unfold rdC
  split
  · exact rdI_b hf 91 v (by omega)
  · omega
theorem rdC_d {o : Int} {ld : Nat → Nat} {b : Nat} {B : Nat → Nat → Int} {f : Nat → Int} : dgr (rdC o ld b B f) ≤ 12 := dgr_le (by decide) (fun v hv q => by
  refine if_neg fun h => ?_
  have := wn_12 h
  omega)
set_option maxRecDepth 10000 in
theorem s11_rest_ok {d L : Nat} {I : Nat → Nat → Int} {R : Nat → Nat → Option Nat} {u : Int64} (hF : FixR R) (hB : Tbc I) (hS : Sn I) {q : Int} (hq : 0 < q ∧ q < 64) {t n : Nat} (hH : Hi I t n) {s x : Nat} (hs : s < 6) (hx : x < 6) (hz : ∀ k, k < 6 → shf q k % 2 = 1 → ¬ dgr (opc I k) < 0) : ∃ J R', am_run am_tb (d + 6) 107 [vR 3, vI s, vI x, vI q] (LH L I R u) = some ([vI (cnt (rdC (I 4 2) (fun j => lw (I 4 2) (opc I (mbE q 6 j))) (mbN q 6) (fun j => opc I (mbE q 6 j)) (opc I x)) 496 : Nat)], LH L J R' u) ∧ Cw I J t n (sopS (snow I 4) s (rdC (I 4 2) (fun j => lw (I 4 2) (opc I (mbE q 6 j))) (mbN q 6) (fun j => opc I (mbE q 6 j)) (opc I x))) ∧ ∀ y, y ≠ 160 → R' y = R y := by
  have h0 := hS.2
  have hl1 : am_lp (am_ev (am_run am_tb (d + 5)) wX11_rest_29) 29 am_F ([vR 3, vI s, vI x, vI q, vI 0], [], LH L I R u) = some (74, [vR 3, vI s, vI x, vI q, vI 6], [], LH L I R u) := by
    refine lp_up0 (fun k => ([vR 3, vI s, vI x, vI q, vI k], [], LH L I R u)) 6 rfl (ltF (by omega)) (by show ¬ 74 = 29 + 2; decide) (fun k hk => lp11_rz (d := d + 3) hF hB hS hq (Nat.le_refl 6) hz hk) ?_
    unfold wX11_rest_29
    apply t_Qs
    apply t_B
    · refine x_iload rfl ?_
      refine x_bipush ?_
      exact rfl
    exact t_ic_ge_t (by omega)
  have hbg := s4_begin (d := d + 4) (L := L) (I := I) (R := R) (u := u) (o := I 4 2)
  obtain ⟨y, hl2, J, R', ey, hD, j1, j2⟩ := lp11_rt (d := d + 1) (L := L) (u := u) (s := s) (x := x) hF hB hS hq (I1 := au (au I 159 (au (I 159) 7 (I 4 2))) 159 (au (au I 159 (au (I 159) 7 (I 4 2)) 159) 6 0)) (fun y hy => by rw [au_n _ _ (by omega), au_n _ _ (by omega)]) Dvc_0 hz
  subst ey
  have hF2 : FixR R' := FixR_m hF (fun a h _ _ => j2 a h)
  have hB2 : Tbc J := Tbc_o hB (fun a ha => j1 a (by unfold Nt at ha; omega))
  have hcp := s6_copyFrom (d := d + 4) (L := L) (u := u) (I := J) (op_299 hF2) (op_st hF2 hx)
  have eX : J (10 + 2 * x) = I (10 + 2 * x) := j1 _ (by omega)
  rw [eX] at hcp
  have hmN := mbN_le q 6
  have hD3 : Dvc (stc J 300 (I (10 + 2 * x))) R' (I 4 2) (mbN q 6) (fun j => 9 + 2 * mbE q 6 j) (fun j => lw (I 4 2) (opc I (mbE q 6 j))) := Dvc_J hD (by omega) (fun j hj => by have := mbE_lt (q := q) (k := 6) hj; omega) (fun a ha => stc_o ha)
  have hrd := s4_reduce (d := d + 1) (L := L) (u := u) (I := stc J 300 (I (10 + 2 * x))) hF2 (Tbc_s hB2 (by unfold Nt; omega)) h0 hD3 (op_299 hF2) (by omega) (by unfold Nt; omega) (fun j hj => by have := mbE_lt (q := q) (k := 6) hj; omega) (fun j hj => by rw [stc_s hj]; exact Sn_op hS hx j hj)
  have hFc : ∀ f : Nat → Int, Fc I (stc J 300 f) := fun f => Fc_n (fun a ha => by
    rw [stc_o (fun z => ha (by unfold Sca; omega))]
    exact j1 a (by unfold Sca at ha; omega))
  replace hrd := ev_c hrd (show _ = stc J 300 (rdC (I 4 2) (fun j => lw (I 4 2) (opc I (mbE q 6 j))) (mbN q 6) (fun j => opc I (mbE q 6 j)) (opc I x)) from stc_stc.trans (stc_c (fun v hv => by
    unfold rdC
    rw [if_pos hv]
    refine rdI_c (o := I 4 2) (ld := fun j => lw (I 4 2) (opc I (mbE q 6 j))) (b := mbN q 6) (B := fun j => cl (stc J 300 (I (10 + 2 * x))) (9 + 2 * mbE q 6 j + 1)) (B' := fun j => opc I (mbE q 6 j)) (f := stc J 300 (I (10 + 2 * x)) 300) (f' := opc I x) (fun j hj => ?_) (fun w hw => ?_) 91 (by omega) v hv
    · have := mbE_lt (q := q) (k := 6) hj
      show cl (stc J 300 (I (10 + 2 * x))) (9 + 2 * mbE q 6 j + 1) = cl I (10 + 2 * mbE q 6 j)
      rw [show 9 + 2 * mbE q 6 j + 1 = 10 + 2 * mbE q 6 j by omega]
      refine cl_o ?_
      rw [stc_o (by omega)]
      exact j1 _ (by omega)
    · rw [stc_s hw]; exact (cl_s hw).symm)))
  obtain ⟨K, hrp, hC⟩ := s11_rep (d := d + 1) (L := L) (u := u) hF2 (hFc _) hH hs (f := rdC (I 4 2) (fun j => lw (I 4 2) (opc I (mbE q 6 j))) (mbN q 6) (fun j => opc I (mbE q 6 j)) (opc I x)) (fun j _ => rdC_b (fun v hv => opc_a hS hx v) j) rdC_d (fun j hj => stc_s hj)
  refine ⟨K, R', ?_, hC, j2⟩
  generalize rdC (I 4 2) (fun j => lw (I 4 2) (opc I (mbE q 6 j))) (mbN q 6) (fun j => opc I (mbE q 6 j)) (opc I x) = F at *
  refine run_of tb_X11_rest (Nat.le_of_ble_eq_true rfl) ?_
  show ∃ ls', am_ev (am_run am_tb (d + 5)) tX11_rest ([vR 3, vI s, vI x, vI q, vU], [], LH L I R u) = _

  apply Exists.intro
  unfold tX11_rest
  apply t_Q
  · apply t_S
    refine x_iload_n rfl ?_
    refine x_S1i (by decide) (Nat.le_of_ble_eq_true rfl) (ret_t (show 0 ≤ (s : Int) ∧ (s : Int) < 6 by omega) (s11_isOperator (d := d + 4) (by omega))) ?_
    exact rfl
  apply t_Q
  · apply t_K
    apply t_Qs
    apply t_Ks
    · apply t_Q
      · apply t_B
        · exact rfl
        exact t_if_eq_f (by omega)
      apply t_Q
      · apply t_B
        · refine x_iload_n rfl ?_
          refine x_S1i (by decide) (Nat.le_of_ble_eq_true rfl) (ret_t (show 0 ≤ (x : Int) ∧ (x : Int) < 6 by omega) (s11_isOperator (d := d + 4) (by omega))) ?_
          exact rfl
        exact t_if_eq_f (by omega)
      apply t_B
      · refine x_iload_n rfl ?_
        refine x_S1i (by decide) (Nat.le_of_ble_eq_true rfl) (ret_t (show 0 < (q : Int) ∧ (q : Int) < 64 by omega) (s11_isSet (d := d + 4) (by omega))) ?_
        exact rfl
      exact t_if_ne_t (by omega)
    · decide
  apply t_Q
  · apply t_S
    refine x_iconst ?_
    refine x_istore rfl ?_
    exact rfl
  apply t_Q
  · apply t_K
    apply t_W
    exact hl1
  apply t_Q
  · apply t_S
    refine x_aload_n rfl ?_
    refine x_gr tg_3 rfl (fx_3_4 hF) ?_
    refine x_aload_n rfl ?_
    refine x_gr tg_3 rfl (fx_3_0 hF) ?_
    refine x_gi tg_4 rfl ?_
    refine x_V2v tg_159 (Nat.le_of_ble_eq_true rfl) (hbg) ?_
    refine x_iconst ?_
    refine x_istore rfl ?_
    exact rfl
  apply t_Q
  · apply t_K
    apply t_W
    exact hl2
  apply t_B
  · refine x_aload_n rfl ?_
    refine x_gr tg_3 rfl (fx_3_9 hF2) ?_
    refine x_aload_n rfl ?_
    refine x_gr tg_3 rfl (fx_3_0 hF2) ?_
    refine x_gr tg_4 rfl (fx_4_0 hF2) ?_
    refine x_iload_n rfl ?_
    refine x_aald (by rw [tg_5]; decide) (ln_5 L) (by omega) (fx_op hF2 hx : R' 5 x = some (9 + 2 * x)) ?_
    refine x_V2v tg_299 (Nat.le_of_ble_eq_true rfl) (hcp) ?_
    refine x_aload_n rfl ?_
    refine x_gr tg_3 rfl (fx_3_4 hF2) ?_
    refine x_aload_n rfl ?_
    refine x_gr tg_3 rfl (fx_3_9 hF2) ?_
    refine x_V2v tg_159 (Nat.le_of_ble_eq_true rfl) (hrd) ?_
    refine x_aload_n rfl ?_
    refine x_iload_n rfl ?_
    refine x_V2i tg_3 (Nat.le_of_ble_eq_true rfl) (hrp) ?_
    exact rfl
  exact t_ireq (Or.inl rfl) rfl rfl
