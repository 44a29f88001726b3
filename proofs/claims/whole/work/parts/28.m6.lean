/-! The reference: degrees of sums and products, powers, mixtures. Written by wip/whole/gen_28.py. -/
theorem wn_m {a b : Nat} (h : a ≤ b) : wn a ≤ wn b := wn_lt (Nat.lt_of_le_of_lt h (wn_b b).2)
theorem dgr_b (f : Nat → Int) : -1 ≤ dgr f ∧ dgr f ≤ 30 := by
  have hle := zt_le f
  unfold dgr
  split
  · omega
  · have := wn_30 (show 495 - zt f < 496 by omega)
    omega
theorem dgr_le {f : Nat → Int} {N : Int} (hN : -1 ≤ N) (h : ∀ w, w < 496 → N < (wn w : Nat) → f w = 0) : dgr f ≤ N := by
  have hle := zt_le f
  unfold dgr
  split
  · exact hN
  · rename_i c
    refine Int.not_lt.mp fun q => ?_
    exact zt_yes c (h _ (by omega) q)
theorem dgr_ge {f : Nat → Int} {w : Nat} (hw : w < 496) (h : f w ≠ 0) : ((wn w : Nat) : Int) ≤ dgr f := by
  have hle := zt_le f
  have hlt : w ≤ 495 - zt f := by
    refine Nat.not_lt.mp fun q => ?_
    have := zt_no (f := f) (k := 495 - w) (by omega)
    rw [show 495 - (495 - w) = w by omega] at this
    exact h this
  have hz : zt f ≠ 496 := by
    intro e
    have := zt_no (f := f) (k := 495 - w) (by omega)
    rw [show 495 - (495 - w) = w by omega] at this
    exact h this
  unfold dgr
  rw [if_neg hz]
  have := wn_m hlt
  omega
theorem dgr_z {f : Nat → Int} {w : Nat} (hw : w < 496) (h : dgr f < (wn w : Nat)) : f w = 0 := by
  refine Decidable.byContradiction fun q => ?_
  have := dgr_ge hw q
  omega
def sup (N : Int) (f : Nat → Int) : Prop := ∀ w, w < 496 → N < (wn w : Nat) → f w = 0
theorem sup_d {f : Nat → Int} {N : Int} (h : dgr f ≤ N) : sup N f := fun _ hw q => dgr_z hw (Int.lt_of_le_of_lt h q)
theorem adF_sup {p q i j : Nat} {c N : Int} {f : Nat → Int} (h : sup N f) (hN : ((p + q + i + j : Nat) : Int) ≤ N) (k : Nat) : sup N (adF p q i j c f k) := by
  induction k with
  | zero => exact h
  | succ k ih =>
    intro w hw q2
    have hne : w ≠ pl (p + i - k) (q - k + j) := by
      intro e
      rw [e, wn_pl] at q2
      omega
    exact (au_n _ _ hne).trans (ih w hw q2)
theorem abF_sup {p q : Nat} {c N : Int} {g f : Nat → Int} (h : sup N f) (hN : ((p + q : Nat) : Int) + dgr g ≤ N) {k : Nat} (hk : k ≤ wds g) : sup N (abF p q c g f k) := by
  induction k with
  | zero => exact h
  | succ k ih =>
    show sup N (if g k = 0 then abF p q c g f k else adF p q (xw k) (dw k) (c * g k % 10007) (abF p q c g f k) (min (xw k) q + 1))
    split
    · exact ih (by omega)
    · have := wds_wn (f := g) (k := k) (by omega)
      have e := xw_dw k
      exact adF_sup (ih (by omega)) (by omega) _
theorem muF_sup {g h : Nat → Int} {N : Int} (hN : dgr g + dgr h ≤ N) {k : Nat} (hk : k ≤ wds g) : sup N (muF g h k) := by
  induction k with
  | zero => exact fun _ _ _ => rfl
  | succ k ih =>
    show sup N (if g k = 0 then muF g h k else abF (xw k) (dw k) (g k) h (muF g h k) (wds h))
    split
    · exact ih (by omega)
    · have := wds_wn (f := g) (k := k) (by omega)
      have e := xw_dw k
      exact abF_sup (ih (by omega)) (by omega) (Nat.le_refl _)
theorem wds_c {f g : Nat → Int} (h : ∀ k, k < 496 → f k = g k) : wds f = wds g := by unfold wds; rw [zt_c h]
theorem abF_c {p q : Nat} {c : Int} {g g' f : Nat → Int} (h : ∀ k, k < 496 → g k = g' k) {k : Nat} (hk : k ≤ 496) : abF p q c g f k = abF p q c g' f k := by
  induction k with
  | zero => rfl
  | succ k ih =>
    show (if g k = 0 then abF p q c g f k else adF p q (xw k) (dw k) (c * g k % 10007) (abF p q c g f k) (min (xw k) q + 1)) = (if g' k = 0 then abF p q c g' f k else adF p q (xw k) (dw k) (c * g' k % 10007) (abF p q c g' f k) (min (xw k) q + 1))
    rw [ih (by omega), h k (by omega)]
theorem muF_c {g g' h h' : Nat → Int} (e1 : ∀ k, k < 496 → g k = g' k) (e2 : ∀ k, k < 496 → h k = h' k) {k : Nat} (hk : k ≤ 496) : muF g h k = muF g' h' k := by
  induction k with
  | zero => rfl
  | succ k ih =>
    show (if g k = 0 then muF g h k else abF (xw k) (dw k) (g k) h (muF g h k) (wds h)) = (if g' k = 0 then muF g' h' k else abF (xw k) (dw k) (g' k) h' (muF g' h' k) (wds h'))
    rw [ih (by omega), e1 k (by omega), wds_c e2, abF_c e2 (wds_496 _)]
/-- the product of two rows -/
def mul (g h : Nat → Int) : Nat → Int := muF g h (wds g)
theorem mul_c {g g' h h' : Nat → Int} (e1 : ∀ k, k < 496 → g k = g' k) (e2 : ∀ k, k < 496 → h k = h' k) : mul g h = mul g' h' := by
  unfold mul
  rw [wds_c e1]
  exact muF_c e1 e2 (wds_496 _)
theorem mul_r {g h : Nat → Int} : resd (mul g h) := muF_b _
theorem mul_d {g h : Nat → Int} : dgr (mul g h) ≤ max (-1) (dgr g + dgr h) := dgr_le (by omega) (muF_sup (by omega) (Nat.le_refl _))
theorem s_mul {d L : Nat} {I : Nat → Nat → Int} {R : Nat → Nat → Option Nat} {u : Int64} (hF : FixR R) {t w to : Nat} (hR : Res I) (hT : Tabs I) (hs : dgr (gro I t) + dgr (gro I w) ≤ 30) (h1 : t < 46) (h2 : w < 46) (h3 : to < 46) (hne : t ≠ to) (hne2 : w ≠ to) : am_run am_tb (d + 4) 152 [vR 301, vI t, vI w, vI to] (LH L I R u) = some ([], LH L (sro I to (mul (gro I t) (gro I w))) R u) := s_multiplies hF hR hT hs h1 h2 h3 hne hne2
set_option maxRecDepth 10000 in
theorem s_isTooMuch {d L : Nat} {I : Nat → Nat → Int} {R : Nat → Nat → Option Nat} {u : Int64} (hF : FixR R) (hR : Res I) (hT : Tabs I) {t w : Nat} (h1 : t < 46) (h2 : w < 46) : am_run am_tb (d + 3) 153 [vR 301, vI t, vI w] (LH L I R u) = some ([vI (if 0 ≤ dgr (gro I t) ∧ 0 ≤ dgr (gro I w) ∧ 12 < dgr (gro I t) + dgr (gro I w) then 1 else 0)], LH L I R u) := by
  refine run_of tb_X12_isTooMuch (Nat.le_of_ble_eq_true rfl) ?_
  show ∃ ls', am_ev (am_run am_tb (d + 2)) tX12_isTooMuch ([vR 301, vI t, vI w, vU, vU], [], (LH L I R u)) = some (1, ls', [vI (if 0 ≤ dgr (gro I t) ∧ 0 ≤ dgr (gro I w) ∧ 12 < dgr (gro I t) + dgr (gro I w) then 1 else 0)], LH L I R u)
  have b1 := dgr_b (gro I t)
  have b2 := dgr_b (gro I w)
  by_cases c1 : dgr (gro I t) < 0
  · apply Exists.intro
    unfold tX12_isTooMuch
    apply t_Q
    · apply t_S
      refine x_aload_n rfl ?_
      refine x_iload_n rfl ?_
      refine x_V2i tg_301 (Nat.le_of_ble_eq_true rfl) (s_degreeIn (d := d) hF hR hT h1) ?_
      refine x_istore_n rfl ?_
      refine x_aload_n rfl ?_
      refine x_iload_n rfl ?_
      refine x_V2i tg_301 (Nat.le_of_ble_eq_true rfl) (s_degreeIn (d := d) hF hR hT h2) ?_
      refine x_istore rfl ?_
      refine x_iload_n rfl ?_
      exact rfl
    apply t_Q
    · apply t_Ks
      · apply t_Q
        · apply t_K
          apply t_Qs
          apply t_B
          · exact rfl
          exact t_if_lt_t (by omega)
        apply t_S
        refine x_iconst ?_
        exact rfl
      · decide
    apply t_B
    · exact rfl
    exact t_ireq (Or.inr (Or.inl rfl)) (by rw [if_neg (by omega)]) rfl
  by_cases c2 : dgr (gro I w) < 0
  · apply Exists.intro
    unfold tX12_isTooMuch
    apply t_Q
    · apply t_S
      refine x_aload_n rfl ?_
      refine x_iload_n rfl ?_
      refine x_V2i tg_301 (Nat.le_of_ble_eq_true rfl) (s_degreeIn (d := d) hF hR hT h1) ?_
      refine x_istore_n rfl ?_
      refine x_aload_n rfl ?_
      refine x_iload_n rfl ?_
      refine x_V2i tg_301 (Nat.le_of_ble_eq_true rfl) (s_degreeIn (d := d) hF hR hT h2) ?_
      refine x_istore rfl ?_
      refine x_iload_n rfl ?_
      exact rfl
    apply t_Q
    · apply t_Ks
      · apply t_Q
        · apply t_K
          apply t_Q
          · apply t_B
            · exact rfl
            exact t_if_lt_f (by omega)
          apply t_Qs
          apply t_B
          · refine x_iload rfl ?_
            exact rfl
          exact t_if_lt_t (by omega)
        apply t_S
        refine x_iconst ?_
        exact rfl
      · decide
    apply t_B
    · exact rfl
    exact t_ireq (Or.inr (Or.inl rfl)) (by rw [if_neg (by omega)]) rfl
  by_cases c3 : dgr (gro I t) + dgr (gro I w) ≤ 12
  · apply Exists.intro
    unfold tX12_isTooMuch
    apply t_Q
    · apply t_S
      refine x_aload_n rfl ?_
      refine x_iload_n rfl ?_
      refine x_V2i tg_301 (Nat.le_of_ble_eq_true rfl) (s_degreeIn (d := d) hF hR hT h1) ?_
      refine x_istore_n rfl ?_
      refine x_aload_n rfl ?_
      refine x_iload_n rfl ?_
      refine x_V2i tg_301 (Nat.le_of_ble_eq_true rfl) (s_degreeIn (d := d) hF hR hT h2) ?_
      refine x_istore rfl ?_
      refine x_iload_n rfl ?_
      exact rfl
    apply t_Q
    · apply t_Ks
      · apply t_Q
        · apply t_K
          apply t_Q
          · apply t_B
            · exact rfl
            exact t_if_lt_f (by omega)
          apply t_Q
          · apply t_B
            · refine x_iload rfl ?_
              exact rfl
            exact t_if_lt_f (by omega)
          apply t_Qs
          apply t_B
          · refine x_iload_n rfl ?_
            refine x_iload rfl ?_
            refine x_iadd ?_
            refine x_bipush ?_
            exact rfl
          exact t_ic_le_t (by omega)
        apply t_S
        refine x_iconst ?_
        exact rfl
      · decide
    apply t_B
    · exact rfl
    exact t_ireq (Or.inr (Or.inl rfl)) (by rw [if_neg (by omega)]) rfl
  apply Exists.intro
  unfold tX12_isTooMuch
  apply t_Q
  · apply t_S
    refine x_aload_n rfl ?_
    refine x_iload_n rfl ?_
    refine x_V2i tg_301 (Nat.le_of_ble_eq_true rfl) (s_degreeIn (d := d) hF hR hT h1) ?_
    refine x_istore_n rfl ?_
    refine x_aload_n rfl ?_
    refine x_iload_n rfl ?_
    refine x_V2i tg_301 (Nat.le_of_ble_eq_true rfl) (s_degreeIn (d := d) hF hR hT h2) ?_
    refine x_istore rfl ?_
    refine x_iload_n rfl ?_
    exact rfl
  apply t_Q
  · apply t_K
    apply t_Qs
    apply t_Ks
    · apply t_Q
      · apply t_B
        · exact rfl
        exact t_if_lt_f (by omega)
      apply t_Q
      · apply t_B
        · refine x_iload rfl ?_
          exact rfl
        exact t_if_lt_f (by omega)
      apply t_Q
      · apply t_B
        · refine x_iload_n rfl ?_
          refine x_iload rfl ?_
          refine x_iadd ?_
          refine x_bipush ?_
          exact rfl
        exact t_ic_le_f (by omega)
      apply t_B
      · refine x_iconst ?_
        exact rfl
      exact t_goto
    · decide
  apply t_B
  · exact rfl
  exact t_ireq (Or.inr (Or.inr rfl)) (by rw [if_pos (by omega)]) rfl
set_option maxRecDepth 10000 in
theorem s_isPowerTooMuch {d L : Nat} {I : Nat → Nat → Int} {R : Nat → Nat → Option Nat} {u : Int64} (hF : FixR R) (hR : Res I) (hT : Tabs I) {t n : Nat} (h1 : t < 46) (h2 : n ≤ 99) : am_run am_tb (d + 3) 154 [vR 301, vI t, vI n] (LH L I R u) = some ([vI (if 12 < (n : Int) * dgr (gro I t) then 1 else 0)], LH L I R u) := by
  refine run_of tb_X12_isPowerTooMuch (Nat.le_of_ble_eq_true rfl) ?_
  show ∃ ls', am_ev (am_run am_tb (d + 2)) tX12_isPowerTooMuch ([vR 301, vI t, vI n], [], (LH L I R u)) = some (1, ls', [vI (if 12 < (n : Int) * dgr (gro I t) then 1 else 0)], LH L I R u)
  have b1 := dgr_b (gro I t)
  have b3 : (n : Int) * dgr (gro I t) ≤ 99 * 30 := Int.le_trans (Int.mul_le_mul_of_nonneg_left b1.2 (by omega)) (by omega)
  have b4 : -99 ≤ (n : Int) * dgr (gro I t) := Int.le_trans (show (-99 : Int) ≤ n * (-1) by omega) (Int.mul_le_mul_of_nonneg_left b1.1 (by omega))
  by_cases c1 : 12 < (n : Int) * dgr (gro I t)
  · apply Exists.intro
    unfold tX12_isPowerTooMuch
    apply t_Q
    · apply t_S
      refine x_iload_n rfl ?_
      refine x_aload_n rfl ?_
      refine x_iload_n rfl ?_
      refine x_V2i tg_301 (Nat.le_of_ble_eq_true rfl) (s_degreeIn (d := d) hF hR hT h1) ?_
      refine x_imul ?_
      refine x_bipush ?_
      exact rfl
    apply t_Q
    · apply t_K
      apply t_Qs
      apply t_Ks
      · apply t_Q
        · apply t_B
          · exact rfl
          exact t_ic_le_f (by omega)
        apply t_B
        · refine x_iconst ?_
          exact rfl
        exact t_goto
      · decide
    apply t_B
    · exact rfl
    exact t_ireq (Or.inr (Or.inr rfl)) (by rw [if_pos (c1)]) rfl
  apply Exists.intro
  unfold tX12_isPowerTooMuch
  apply t_Q
  · apply t_S
    refine x_iload_n rfl ?_
    refine x_aload_n rfl ?_
    refine x_iload_n rfl ?_
    refine x_V2i tg_301 (Nat.le_of_ble_eq_true rfl) (s_degreeIn (d := d) hF hR hT h1) ?_
    refine x_imul ?_
    refine x_bipush ?_
    exact rfl
  apply t_Q
  · apply t_Ks
    · apply t_Q
      · apply t_K
        apply t_Qs
        apply t_B
        · exact rfl
        exact t_ic_le_t (by omega)
      apply t_S
      refine x_iconst ?_
      exact rfl
    · decide
  apply t_B
  · exact rfl
  exact t_ireq (Or.inr (Or.inl rfl)) (by rw [if_neg (c1)]) rfl
def mixF (a : Int) (f : Nat → Int) (b : Int) (g : Nat → Int) : Nat → Int := fun j => (a * f j + b * g j) % 10007
theorem mixF_b {a b : Int} {f g : Nat → Int} : resd (mixF a f b g) := fun k _ => by unfold mixF; omega
set_option maxRecDepth 10000 in
theorem lp_mixes {d L : Nat} {I : Nat → Nat → Int} {R : Nat → Nat → Option Nat} {u : Int64} (hF : FixR R) {t w to : Nat} {a b : Int} (hR : Res I) (ha : 0 ≤ a ∧ a < 10007) (hb : 0 ≤ b ∧ b < 10007) (h1 : t < 46) (h2 : w < 46) (h3 : to < 46) (hne : t ≠ to) (hne2 : w ≠ to) : am_lp (am_ev (am_run am_tb (d + 1)) wX12_mixes_3) 3 am_F ([vR 301, vI t, vI a, vI w, vI b, vI to, vI 0], [], LH L I R u) = some (69, ([vR 301, vI t, vI a, vI w, vI b, vI to, vI 496], [], LH L (sro I to (mixF a (gro I t) b (gro I w))) R u)) := by
  skip
  refine lp_up0 (fun k => ([vR 301, vI t, vI a, vI w, vI b, vI to, vI k], [], LH L (sro I to (fun j => if j < k then mixF a (gro I t) b (gro I w) j else gro I to j)) R u)) (496) (s3 rfl (sro_id (fun j hj => by rw [if_neg (by omega)])).symm) (ltF (by first | decide | omega)) (by show ¬ 69 = 3 + 2; decide) (fun k hk => ?_) ?_
  · have v1 := Res_g hR t k
    have v2 := Res_g hR w k
    have m1 := mul_b (a := a) (b := gro I t k) (m := 10006) (n := 10006) ⟨ha.1, by omega⟩ ⟨v1.1, by omega⟩
    have m2 := mul_b (a := b) (b := gro I w k) (m := 10006) (n := 10006) ⟨hb.1, by omega⟩ ⟨v2.1, by omega⟩
    unfold wX12_mixes_3
    apply t_Q
    · apply t_B
      · refine x_iload rfl ?_
        refine x_sipush ?_
        exact rfl
      exact t_ic_ge_f (by omega)
    apply t_B
    · refine x_aload_n rfl ?_
      refine x_gr tg_301 rfl (fx_301_6 hF) ?_
      refine x_sipush ?_
      refine x_iload rfl ?_
      refine x_imul ?_
      refine x_iload rfl ?_
      refine x_iadd ?_
      refine x_iload_n rfl ?_
      refine x_aload_n rfl ?_
      refine x_gr tg_301 rfl (fx_301_6 hF) ?_
      refine x_sipush ?_
      refine x_iload_n rfl ?_
      refine x_imul ?_
      refine x_iload rfl ?_
      refine x_iadd ?_
      refine x_wld t k (by omega) (gro_n hk hne) ?_
      refine x_imul ?_
      refine x_iload rfl ?_
      refine x_aload_n rfl ?_
      refine x_gr tg_301 rfl (fx_301_6 hF) ?_
      refine x_sipush ?_
      refine x_iload_n rfl ?_
      refine x_imul ?_
      refine x_iload rfl ?_
      refine x_iadd ?_
      refine x_wld w k (by omega) (gro_n hk hne2) ?_
      refine x_imul ?_
      refine x_iadd ?_
      refine x_sipush ?_
      refine x_irem0 (by omega) ?_
      refine x_wst k (by omega) ?_
      refine x_iinc rfl rfl ?_
      exact rfl
    exact t_goeq (s3 rfl (sro_c (fun j hj => by
          by_cases e : j = k
          · subst e; rw [au_s, if_pos (by omega)]; rfl
          · rw [au_n _ _ e]; by_cases e2 : j < k
            · rw [if_pos e2, if_pos (by omega)]
            · rw [if_neg e2, if_neg (by omega)])))
  · rw [show sro I to (mixF a (gro I t) b (gro I w)) = sro I to (fun j => if j < 496 then mixF a (gro I t) b (gro I w) j else gro I to j) from sro_c (fun j hj => by rw [if_pos hj])]
    unfold wX12_mixes_3
    apply t_Qs
    apply t_B
    · refine x_iload rfl ?_
      refine x_sipush ?_
      exact rfl
    exact t_ic_ge_t (by omega)
set_option maxRecDepth 10000 in
theorem s_mixes {d L : Nat} {I : Nat → Nat → Int} {R : Nat → Nat → Option Nat} {u : Int64} (hF : FixR R) {t w to : Nat} {a b : Int} (hR : Res I) (ha : 0 ≤ a ∧ a < 10007) (hb : 0 ≤ b ∧ b < 10007) (h1 : t < 46) (h2 : w < 46) (h3 : to < 46) (hne : t ≠ to) (hne2 : w ≠ to) : am_run am_tb (d + 2) 156 [vR 301, vI t, vI a, vI w, vI b, vI to] (LH L I R u) = some ([], LH L (sro I to (mixF a (gro I t) b (gro I w))) R u) := by
  refine run_of tb_X12_mixes (Nat.le_of_ble_eq_true rfl) ?_
  show ∃ ls', am_ev (am_run am_tb (d + 1)) tX12_mixes ([vR 301, vI t, vI a, vI w, vI b, vI to, vU], [], (LH L I R u)) = some (1, ls', [], LH L (sro I to (mixF a (gro I t) b (gro I w))) R u)
  apply Exists.intro
  unfold tX12_mixes
  apply t_Q
  · apply t_S
    refine x_iconst ?_
    refine x_istore rfl ?_
    exact rfl
  apply t_Q
  · apply t_K
    apply t_W
    exact lp_mixes (d := d) hF hR ha hb h1 h2 h3 hne hne2
  apply t_B
  · exact rfl
  exact rfl
def one : Nat → Int := au (fun _ => 0) 0 1
theorem one_b : resd one := fun k _ => by
  unfold one au
  split
  · exact ⟨by decide, by decide⟩
  · exact ⟨Int.le_refl 0, show (0 : Int) < 10007 by decide⟩
theorem one_d : dgr one ≤ 0 := dgr_le (by omega) (fun w hw q => by
  have hne : w ≠ 0 := by
    intro e; subst e
    have : wn 0 = 0 := rfl
    omega
  exact au_n _ _ hne)
/-- powers: the base comes on the right -/
def powR (g : Nat → Int) : Nat → Nat → Int
  | 0 => one
  | k + 1 => mul (powR g k) g
theorem powR_b {g : Nat → Int} (k : Nat) : resd (powR g k) := by
  cases k with
  | zero => exact one_b
  | succ k => exact mul_r
theorem powR_d {g : Nat → Int} (k : Nat) : dgr (powR g k) ≤ (k : Int) * max 0 (dgr g) := by
  induction k with
  | zero => rw [show ((0 : Nat) : Int) * max 0 (dgr g) = 0 from Int.zero_mul _]; exact one_d
  | succ k ih =>
    have e := mul_d (g := powR g k) (h := g)
    rw [show ((k + 1 : Nat) : Int) * max 0 (dgr g) = (k : Int) * max 0 (dgr g) + max 0 (dgr g) by rw [Int.natCast_add, Int.add_mul]; simp only [Int.natCast_one, Int.one_mul]]
    have h0 : 0 ≤ (k : Int) * max 0 (dgr g) := Int.mul_nonneg (by omega) (by omega)
    show dgr (mul (powR g k) g) ≤ _
    omega
def raI (I : Nat → Nat → Int) (g : Nat → Int) (k : Nat) : Nat → Nat → Int := sro (sro (sro I 26 g) 27 (powR g k)) 25 (if k = 0 then gro I 25 else powR g k)
theorem sro_cm {I : Nat → Nat → Int} {r q : Nat} {f g : Nat → Int} (h : r ≠ q) : sro (sro I r f) q g = sro (sro I q g) r f := by
  unfold sro
  rw [au_au, au_au, au_s, au_s]
  refine au_c ?_
  funext j
  by_cases c : j / 496 = q
  · rw [if_pos c, if_neg (by omega), if_pos c]
  · rw [if_neg c, if_neg c]
theorem ra27 {I : Nat → Nat → Int} {g : Nat → Int} {k : Nat} (j : Nat) (hj : j < 496) : gro (raI I g k) 27 j = powR g k j := by
  unfold raI; rw [gro_n hj (by decide), gro_s hj]
theorem ra26 {I : Nat → Nat → Int} {g : Nat → Int} {k : Nat} (j : Nat) (hj : j < 496) : gro (raI I g k) 26 j = g j := by
  unfold raI; rw [gro_n hj (by decide), gro_n hj (by decide), gro_s hj]
theorem raR {I : Nat → Nat → Int} {g : Nat → Int} {k : Nat} (hR : Res I) (hg : resd g) : Res (raI I g k) := by
  unfold raI
  refine Res_s (Res_s (Res_s hR hg) (powR_b k)) ?_
  split
  · exact fun j _ => Res_g hR 25 j
  · exact powR_b k
theorem raT {I : Nat → Nat → Int} {g : Nat → Int} {k : Nat} (hT : Tabs I) : Tabs (raI I g k) := Tabs_s (Tabs_s (Tabs_s hT))
theorem ra0 {I : Nat → Nat → Int} {g : Nat → Int} : sro (sro I 26 g) 27 one = raI I g 0 := by
  unfold raI
  rw [if_pos rfl]
  exact (sro_id (fun j hj => by rw [gro_n hj (by decide), gro_n hj (by decide)])).symm
theorem raS {I : Nat → Nat → Int} {g : Nat → Int} {k : Nat} : sro (sro (raI I g k) 25 (powR g (k + 1))) 27 (powR g (k + 1)) = raI I g (k + 1) := by
  show sro (sro (sro (sro (sro I 26 g) 27 (powR g k)) 25 _) 25 (powR g (k + 1))) 27 (powR g (k + 1)) = sro (sro (sro I 26 g) 27 (powR g (k + 1))) 25 (if k + 1 = 0 then _ else powR g (k + 1))
  rw [sro_sro, sro_cm (r := 25) (q := 27) (by decide), sro_sro, if_neg (by omega)]
theorem pow_d {g : Nat → Int} {n k : Nat} (h : (n : Int) * dgr g ≤ 12) (hk : k < n) : dgr (powR g k) + dgr g ≤ 30 := by
  have e := powR_d (g := g) k
  by_cases c : dgr g ≤ 0
  · rw [show max 0 (dgr g) = 0 by omega, Int.mul_zero] at e
    omega
  · rw [show max 0 (dgr g) = dgr g by omega] at e
    have := Int.mul_le_mul_of_nonneg_right (show ((k : Int) + 1) ≤ n by omega) (show 0 ≤ dgr g by omega)
    rw [Int.add_mul, Int.one_mul] at this
    omega
set_option maxRecDepth 10000 in
theorem lp_raises {d L : Nat} {I : Nat → Nat → Int} {R : Nat → Nat → Option Nat} {u : Int64} (hF : FixR R) {n : Nat} {g : Nat → Int} (hR : Res I) (hT : Tabs I) (hg : resd g) (hn : n ≤ 99) (hd : (n : Int) * dgr g ≤ 12) : am_lp (am_ev (am_run am_tb (d + 4)) wX12_raises_25) 25 am_F ([vR 301, vI n, vI 0], [], LH L (sro (sro I 26 g) 27 one) R u) = some (56, ([vR 301, vI n, vI n], [], LH L (raI I g n) R u)) := by
  skip
  refine lp_up0 (fun k => ([vR 301, vI n, vI k], [], LH L (raI I g k) R u)) (n) (s3 rfl ra0) (ltF (by first | decide | omega)) (by show ¬ 56 = 25 + 2; decide) (fun k hk => ?_) ?_
  · have hm := s_mul (d := d) (L := L) (u := u) hF (raR (k := k) hR hg) (raT (g := g) hT) (t := 27) (w := 26) (to := 25) (by rw [dgr_c ra27, dgr_c ra26]; exact pow_d hd hk) (by decide) (by decide) (by decide) (by decide) (by decide)
    rw [show mul (gro (raI I g k) 27) (gro (raI I g k) 26) = powR g (k + 1) from mul_c ra27 ra26] at hm
    have hc := s_copies (d := d + 2) (L := L) (u := u) (I := sro (raI I g k) 25 (powR g (k + 1))) hF (fr := 25) (to := 27) (by decide) (by decide)
    rw [show sro (sro (raI I g k) 25 (powR g (k + 1))) 27 (gro (sro (raI I g k) 25 (powR g (k + 1))) 25) = raI I g (k + 1) from (sro_c (fun j hj => gro_s hj)).trans raS] at hc
    unfold wX12_raises_25
    apply t_Q
    · apply t_B
      · refine x_iload_n rfl ?_
        refine x_iload_n rfl ?_
        exact rfl
      exact t_ic_ge_f (by omega)
    apply t_B
    · refine x_aload_n rfl ?_
      refine x_bipush ?_
      refine x_bipush ?_
      refine x_bipush ?_
      refine x_V4v tg_301 (Nat.le_of_ble_eq_true rfl) (hm) ?_
      refine x_aload_n rfl ?_
      refine x_bipush ?_
      refine x_bipush ?_
      refine x_V3v tg_301 (Nat.le_of_ble_eq_true rfl) (hc) ?_
      refine x_iinc rfl rfl ?_
      exact rfl
    exact t_goeq rfl
  · unfold wX12_raises_25
    apply t_Qs
    apply t_B
    · refine x_iload_n rfl ?_
      refine x_iload_n rfl ?_
      exact rfl
    exact t_ic_ge_t (by omega)
set_option maxRecDepth 10000 in
theorem s_raises {d L : Nat} {I : Nat → Nat → Int} {R : Nat → Nat → Option Nat} {u : Int64} (hF : FixR R) (hR : Res I) (hT : Tabs I) {n : Nat} (hn : n ≤ 99) (hd : (n : Int) * dgr (gro I 27) ≤ 12) : am_run am_tb (d + 5) 155 [vR 301, vI n] (LH L I R u) = some ([], LH L (raI I (gro I 27) n) R u) := by
  refine run_of tb_X12_raises (Nat.le_of_ble_eq_true rfl) ?_
  show ∃ ls', am_ev (am_run am_tb (d + 4)) tX12_raises ([vR 301, vI n, vU], [], (LH L I R u)) = some (1, ls', [], LH L (raI I (gro I 27) n) R u)
  apply Exists.intro
  unfold tX12_raises
  apply t_Q
  · apply t_S
    refine x_aload_n rfl ?_
    refine x_bipush ?_
    refine x_bipush ?_
    refine x_V3v tg_301 (Nat.le_of_ble_eq_true rfl) (s_copies (d := d + 2) hF (fr := 27) (to := 26) (by decide) (by decide)) ?_
    refine x_aload_n rfl ?_
    refine x_bipush ?_
    refine x_V2v tg_301 (Nat.le_of_ble_eq_true rfl) (s_wip (d := d + 3) hF (row := 27) (by decide)) ?_
    refine x_aload_n rfl ?_
    refine x_gr tg_301 rfl (fx_301_6 hF) ?_
    refine x_sipush ?_
    refine x_iconst ?_
    refine x_wst 0 (by omega) ?_
    refine x_iconst ?_
    refine x_istore_n rfl ?_
    exact rfl
  apply t_Q
  · apply t_K
    apply t_W
    exact lp_raises (d := d) hF hR hT (fun j _ => Res_g hR 27 j) hn hd
  apply t_B
  · exact rfl
  exact rfl
