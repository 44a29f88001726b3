/-! The reference: sums and products of words. Written by wip/whole/gen_27.py. -/
theorem x_irem0 {G : am_G} {ls st : List am_V} {h : am_H} {z : Nat × Nat × Nat} {r : List am_I} {Y : Option am_S} {a b : Int} (hh : (0 ≤ a ∧ a ≤ 2147483647) ∧ 0 < b ∧ b ≤ 2147483647) (k : am_L G r (ls, vI (a % b) :: st, h) = Y) : am_L G ((.irem, z) :: r) (ls, vI b :: vI a :: st, h) = Y := x_irem (by omega) (by rw [Int.tmod_eq_emod_of_nonneg hh.1.1]; exact k)
theorem x_idiv0 {G : am_G} {ls st : List am_V} {h : am_H} {z : Nat × Nat × Nat} {r : List am_I} {Y : Option am_S} {a b : Int} (hh : (0 ≤ a ∧ a ≤ 2147483647) ∧ 0 < b ∧ b ≤ 2147483647) (k : am_L G r (ls, vI (a / b) :: st, h) = Y) : am_L G ((.idiv, z) :: r) (ls, vI b :: vI a :: st, h) = Y := x_idiv (by omega) (by rw [Int.tdiv_eq_ediv_of_nonneg hh.1.1]; exact k)
theorem mul_b {a b m n : Int} (h1 : 0 ≤ a ∧ a ≤ m) (h2 : 0 ≤ b ∧ b ≤ n) : 0 ≤ a * b ∧ a * b ≤ m * n := ⟨Int.mul_nonneg h1.1 h2.1, Int.mul_le_mul h1.2 h2.2 h2.1 (Int.le_trans h1.1 h1.2)⟩
abbrev resd (f : Nat → Int) : Prop := ∀ k, k < 496 → 0 ≤ f k ∧ f k < 10007
def faF (i : Nat) (c : Int) : Nat → Int
  | 0 => c
  | k + 1 => faF i c k * ((i : Int) - k) % 10007
theorem faF_b {i : Nat} {c : Int} (h : 0 ≤ c ∧ c < 10007) (k : Nat) : 0 ≤ faF i c k ∧ faF i c k < 10007 := by
  cases k with
  | zero => exact h
  | succ k => show 0 ≤ faF i c k * ((i : Int) - k) % 10007 ∧ faF i c k * ((i : Int) - k) % 10007 < 10007; omega
/-- a word times a word, c times, comes to f: k steps -/
def adF (p q i j : Nat) (c : Int) (f : Nat → Int) : Nat → Nat → Int
  | 0 => f
  | k + 1 => au (adF p q i j c f k) (pl (p + i - k) (q - k + j)) ((adF p q i j c f k (pl (p + i - k) (q - k + j)) + ch q k * faF i c k) % 10007)
theorem adF_b {p q i j : Nat} {c : Int} {f : Nat → Int} (h : resd f) (k : Nat) : resd (adF p q i j c f k) := by
  induction k with
  | zero => exact h
  | succ k ih =>
    intro w hw
    show 0 ≤ au _ _ _ w ∧ au _ _ _ w < 10007
    unfold au
    split
    · omega
    · exact ih w hw
def atv (p q i j row : Nat) : Nat → am_V
  | 0 => vU
  | k + 1 => vI (496 * (row : Int) + (pl (p + i - k) (q - k + j) : Nat))
set_option maxRecDepth 10000 in
theorem lp_adds {d L : Nat} {I : Nat → Nat → Int} {R : Nat → Nat → Option Nat} {u : Int64} (hF : FixR R) {p q i j row : Nat} {c : Int} {f : Nat → Int} (hf : resd f) (hT : Tabs I) (hc : 0 ≤ c ∧ c < 10007) (hs : p + q + i + j ≤ 30) (h1 : row < 46) : am_lp (am_ev (am_run am_tb (d + 1)) wX12_adds_7) 7 am_F ([vR 301, vI p, vI q, vI i, vI j, vI c, vI row, vI c, vI 0, vU], [], LH L (sro I row f) R u) = some (99, ([vR 301, vI p, vI q, vI i, vI j, vI c, vI row, vI (faF i c (min i q + 1)), vI ((min i q + 1 : Nat) : Int), atv p q i j row (min i q + 1)], [], LH L (sro I row (adF p q i j c f (min i q + 1))) R u)) := by
  skip
  refine lp_up0 (fun k => ([vR 301, vI p, vI q, vI i, vI j, vI c, vI row, vI (faF i c k), vI k, atv p q i j row k], [], LH L (sro I row (adF p q i j c f k)) R u)) (min i q + 1) rfl (ltF (by first | decide | omega)) (by show ¬ 99 = 7 + 2; decide) (fun k hk => ?_) ?_
  · have hki : k ≤ i := by omega
    have hkq : k ≤ q := by omega
    have hw : pl (p + i - k) (q - k + j) < 496 := pl_496 (by omega)
    have b1 := adF_b (p := p) (q := q) (i := i) (j := j) (c := c) hf k _ hw
    have b2 := faF_b (i := i) hc k
    have b3 := ch_b q k
    have b4 := mul_b (m := 10006) (n := 10006) ⟨b3.1, by omega⟩ ⟨b2.1, by omega⟩
    have b5 := mul_b (a := faF i c k) (b := (i : Int) - k) (m := 10006) (n := 30) ⟨b2.1, by omega⟩ (by omega)
    unfold wX12_adds_7
    apply t_Q
    · apply t_B
      · refine x_iload rfl ?_
        refine x_iload_n rfl ?_
        exact rfl
      exact t_ic_gt_f (by omega)
    apply t_Q
    · apply t_B
      · refine x_iload rfl ?_
        refine x_iload_n rfl ?_
        exact rfl
      exact t_ic_gt_f (by omega)
    apply t_B
    · refine x_sipush ?_
      refine x_iload rfl ?_
      refine x_imul ?_
      refine x_iload_n rfl ?_
      refine x_iload_n rfl ?_
      refine x_iadd ?_
      refine x_iload rfl ?_
      refine x_isub ?_
      refine x_iload_n rfl ?_
      refine x_iload rfl ?_
      refine x_isub ?_
      refine x_iload rfl ?_
      refine x_iadd ?_
      refine x_S2i (by decide) (Nat.le_of_ble_eq_true rfl) (s_word (d := d) (a := p + i - k) (b := q - k + j) (by omega) (by omega) (by omega) (by omega)) ?_
      refine x_iadd ?_
      refine x_istore rfl ?_
      refine x_aload_n rfl ?_
      refine x_gr tg_301 rfl (fx_301_6 hF) ?_
      refine x_iload rfl ?_
      refine x_aload_n rfl ?_
      refine x_gr tg_301 rfl (fx_301_6 hF) ?_
      refine x_iload rfl ?_
      refine x_wld row _ ⟨rfl, h1, hw⟩ (gro_s hw) ?_
      refine x_aload_n rfl ?_
      refine x_gr tg_301 rfl (fx_301_9 hF) ?_
      refine x_bipush ?_
      refine x_iload_n rfl ?_
      refine x_imul ?_
      refine x_iload rfl ?_
      refine x_iadd ?_
      refine x_ialdv (Or.inl tg_309) (ln_309 L) (by omega) (show _ = ch q k from by rw [sro_o (by decide), show (31 * (q : Int) + k).toNat = 31 * q + k by omega]; exact hT.2.2 q k (by omega) (by omega)) ?_
      refine x_iload rfl ?_
      refine x_imul ?_
      refine x_iadd ?_
      refine x_sipush ?_
      refine x_irem0 (by omega) ?_
      refine x_wst _ ⟨rfl, h1, hw⟩ ?_
      refine x_iload rfl ?_
      refine x_iload_n rfl ?_
      refine x_iload rfl ?_
      refine x_isub ?_
      refine x_imul ?_
      refine x_sipush ?_
      refine x_irem0 (by omega) ?_
      refine x_istore rfl ?_
      refine x_iinc rfl rfl ?_
      exact rfl
    exact t_goeq rfl
  · by_cases ce : i ≤ q
    · unfold wX12_adds_7
      apply t_Qs
      apply t_B
      · refine x_iload rfl ?_
        refine x_iload_n rfl ?_
        exact rfl
      exact t_ic_gt_t (by omega)
    unfold wX12_adds_7
    apply t_Q
    · apply t_B
      · refine x_iload rfl ?_
        refine x_iload_n rfl ?_
        exact rfl
      exact t_ic_gt_f (by omega)
    apply t_Qs
    apply t_B
    · refine x_iload rfl ?_
      refine x_iload_n rfl ?_
      exact rfl
    exact t_ic_gt_t (by omega)
set_option maxRecDepth 10000 in
theorem s_adds {d L : Nat} {I : Nat → Nat → Int} {R : Nat → Nat → Option Nat} {u : Int64} (hF : FixR R) {p q i j row : Nat} {c : Int} {f : Nat → Int} (hf : resd f) (hT : Tabs I) (hc : 0 ≤ c ∧ c < 10007) (hs : p + q + i + j ≤ 30) (h1 : row < 46) : am_run am_tb (d + 2) 150 [vR 301, vI p, vI q, vI i, vI j, vI c, vI row] (LH L (sro I row f) R u) = some ([], LH L (sro I row (adF p q i j c f (min i q + 1))) R u) := by
  refine run_of tb_X12_adds (Nat.le_of_ble_eq_true rfl) ?_
  show ∃ ls', am_ev (am_run am_tb (d + 1)) tX12_adds ([vR 301, vI p, vI q, vI i, vI j, vI c, vI row, vU, vU, vU], [], (LH L (sro I row f) R u)) = some (1, ls', [], LH L (sro I row (adF p q i j c f (min i q + 1))) R u)
  apply Exists.intro
  unfold tX12_adds
  apply t_Q
  · apply t_S
    refine x_iload rfl ?_
    refine x_istore rfl ?_
    refine x_iconst ?_
    refine x_istore rfl ?_
    exact rfl
  apply t_Q
  · apply t_K
    apply t_W
    exact lp_adds (d := d) hF hf hT hc hs h1
  apply t_B
  · exact rfl
  exact rfl
/-- how many words a row has up to its degree -/
def wds (f : Nat → Int) : Nat := if zt f = 496 then 0 else tri (wn (495 - zt f) + 1)
theorem wds_dgr (f : Nat → Int) : (dgr f + 1) * (dgr f + 2) / 2 = (wds f : Nat) ∧ (0 ≤ (dgr f + 1) * (dgr f + 2) ∧ (dgr f + 1) * (dgr f + 2) ≤ 31 * 32) := by
  have hle := zt_le f
  unfold dgr wds
  by_cases c : zt f = 496
  · rw [if_pos c, if_pos c]; decide
  · rw [if_neg c, if_neg c]
    have hn := wn_30 (show 495 - zt f < 496 by omega)
    refine ⟨?_, mul_b (by omega) (by omega)⟩
    generalize wn (495 - zt f) = n
    show _ = (((n + 1) * (n + 1 + 1) / 2 : Nat) : Int)
    rw [Int.natCast_ediv, Int.natCast_mul, Int.natCast_add, Int.natCast_add, Int.natCast_add]
    show _ = ((n : Int) + 1) * ((n : Int) + 1 + 1) / 2
    rw [show (n : Int) + 1 + 1 = n + 2 by omega]
theorem wds_496 (f : Nat → Int) : wds f ≤ 496 := by
  have hle := zt_le f
  unfold wds
  split
  · omega
  · have hn := wn_30 (show 495 - zt f < 496 by omega)
    rw [← tri_31]
    exact tri_m (by omega)
theorem wds_wn {f : Nat → Int} {k : Nat} (h : k < wds f) : (wn k : Int) ≤ dgr f := by
  unfold wds at h
  unfold dgr
  split
  · rename_i c; rw [if_pos c] at h; omega
  · rename_i c
    rw [if_neg c] at h
    have := wn_lt h
    omega
/-- a word times g, c times, comes to f: the first k words of g -/
def abF (p q : Nat) (c : Int) (g f : Nat → Int) : Nat → Nat → Int
  | 0 => f
  | k + 1 => if g k = 0 then abF p q c g f k else adF p q (xw k) (dw k) (c * g k % 10007) (abF p q c g f k) (min (xw k) q + 1)
theorem abF_b {p q : Nat} {c : Int} {g f : Nat → Int} (h : resd f) (k : Nat) : resd (abF p q c g f k) := by
  induction k with
  | zero => exact h
  | succ k ih =>
    show resd (if g k = 0 then abF p q c g f k else adF p q (xw k) (dw k) (c * g k % 10007) (abF p q c g f k) (min (xw k) q + 1))
    split
    · exact ih
    · exact adF_b ih _
def gov (g : Nat → Int) : Nat → am_V
  | 0 => vU
  | k + 1 => vI (g k)
set_option maxRecDepth 10000 in
theorem lp_addsBehind {d L : Nat} {I : Nat → Nat → Int} {R : Nat → Nat → Option Nat} {u : Int64} (hF : FixR R) {p q fr to : Nat} {c : Int} {f : Nat → Int} (hR : Res I) (hf : resd f) (hT : Tabs I) (hc : 0 ≤ c ∧ c < 10007) (hs : ((p + q : Nat) : Int) + dgr (gro I fr) ≤ 30) (h1 : fr < 46) (h2 : to < 46) (hne : fr ≠ to) : am_lp (am_ev (am_run am_tb (d + 2)) wX12_addsBehind_11) 11 am_F ([vR 301, vI p, vI q, vI c, vI fr, vI to, vI (dgr (gro I fr)), vI 0, vU], [], LH L (sro I to f) R u) = some (86, ([vR 301, vI p, vI q, vI c, vI fr, vI to, vI (dgr (gro I fr)), vI (wds (gro I fr) : Nat), gov (gro I fr) (wds (gro I fr))], [], LH L (sro I to (abF p q c (gro I fr) f (wds (gro I fr)))) R u)) := by
  have hN := wds_dgr (gro I fr)
  have hN5 := wds_496 (gro I fr)
  refine lp_up0 (fun k => ([vR 301, vI p, vI q, vI c, vI fr, vI to, vI (dgr (gro I fr)), vI k, gov (gro I fr) k], [], LH L (sro I to (abF p q c (gro I fr) f k)) R u)) (wds (gro I fr)) rfl (ltF (by first | decide | omega)) (by show ¬ 86 = 11 + 2; decide) (fun k hk => ?_) ?_
  · have hk5 : k < 496 := Nat.lt_of_lt_of_le hk (wds_496 _)
    have hwn := wds_wn hk
    have hxd := xw_dw k
    have hv := Res_g hR fr k
    have e1 : gro (sro I to (abF p q c (gro I fr) f k)) fr k = gro I fr k := gro_n hk5 hne
    have b4 := mul_b (a := c) (b := gro I fr k) (m := 10006) (n := 10006) ⟨hc.1, by omega⟩ ⟨hv.1, by omega⟩
    by_cases c0 : gro I fr k = 0
    · unfold wX12_addsBehind_11
      apply t_Q
      · apply t_B
        · refine x_iload rfl ?_
          refine x_iload rfl ?_
          refine x_iconst ?_
          refine x_iadd ?_
          refine x_iload rfl ?_
          refine x_iconst ?_
          refine x_iadd ?_
          refine x_imul ?_
          refine x_iconst ?_
          refine x_idiv0 (by omega) ?_
          exact rfl
        exact t_ic_ge_f (by omega)
      apply t_Q
      · apply t_S
        refine x_aload_n rfl ?_
        refine x_gr tg_301 rfl (fx_301_6 hF) ?_
        refine x_sipush ?_
        refine x_iload rfl ?_
        refine x_imul ?_
        refine x_iload rfl ?_
        refine x_iadd ?_
        refine x_wld fr k (by omega) e1 ?_
        refine x_istore rfl ?_
        refine x_iload rfl ?_
        exact rfl
      apply t_Q
      · apply t_K
        apply t_Qs
        apply t_B
        · exact rfl
        exact t_if_eq_t (by omega)
      apply t_B
      · refine x_iinc rfl rfl ?_
        exact rfl
      exact t_goeq (s3 rfl (show _ = sro I to (abF p q c (gro I fr) f (k + 1)) from by show _ = sro I to (if _ then _ else _); rw [if_pos c0]))
    unfold wX12_addsBehind_11
    apply t_Q
    · apply t_B
      · refine x_iload rfl ?_
        refine x_iload rfl ?_
        refine x_iconst ?_
        refine x_iadd ?_
        refine x_iload rfl ?_
        refine x_iconst ?_
        refine x_iadd ?_
        refine x_imul ?_
        refine x_iconst ?_
        refine x_idiv0 (by omega) ?_
        exact rfl
      exact t_ic_ge_f (by omega)
    apply t_Q
    · apply t_S
      refine x_aload_n rfl ?_
      refine x_gr tg_301 rfl (fx_301_6 hF) ?_
      refine x_sipush ?_
      refine x_iload rfl ?_
      refine x_imul ?_
      refine x_iload rfl ?_
      refine x_iadd ?_
      refine x_wld fr k (by omega) e1 ?_
      refine x_istore rfl ?_
      refine x_iload rfl ?_
      exact rfl
    apply t_Q
    · apply t_Ks
      · apply t_Q
        · apply t_B
          · exact rfl
          exact t_if_eq_f (by omega)
        apply t_S
        refine x_aload_n rfl ?_
        refine x_iload_n rfl ?_
        refine x_iload_n rfl ?_
        refine x_aload_n rfl ?_
        refine x_gr tg_301 rfl (fx_301_7 hF) ?_
        refine x_iload rfl ?_
        refine x_ialdv (Or.inl tg_307) (ln_307 L) (by omega) (show _ = ((xw k : Nat) : Int) from by rw [sro_o (by decide)]; exact hT.1 k hk5) ?_
        refine x_aload_n rfl ?_
        refine x_gr tg_301 rfl (fx_301_8 hF) ?_
        refine x_iload rfl ?_
        refine x_ialdv (Or.inl tg_308) (ln_308 L) (by omega) (show _ = ((dw k : Nat) : Int) from by rw [sro_o (by decide)]; exact hT.2.1 k hk5) ?_
        refine x_iload_n rfl ?_
        refine x_iload rfl ?_
        refine x_imul ?_
        refine x_sipush ?_
        refine x_irem0 (by omega) ?_
        refine x_iload rfl ?_
        refine x_V7v tg_301 (Nat.le_of_ble_eq_true rfl) (s_adds (d := d) hF (abF_b hf k) hT (by omega) (by omega) h2) ?_
        exact rfl
      · decide
    apply t_B
    · refine x_iinc rfl rfl ?_
      exact rfl
    exact t_goeq (s3 rfl (show _ = sro I to (abF p q c (gro I fr) f (k + 1)) from by show _ = sro I to (if _ then _ else _); rw [if_neg c0]))
  · unfold wX12_addsBehind_11
    apply t_Qs
    apply t_B
    · refine x_iload rfl ?_
      refine x_iload rfl ?_
      refine x_iconst ?_
      refine x_iadd ?_
      refine x_iload rfl ?_
      refine x_iconst ?_
      refine x_iadd ?_
      refine x_imul ?_
      refine x_iconst ?_
      refine x_idiv0 (by omega) ?_
      exact rfl
    exact t_ic_ge_t (by omega)
theorem gro_sn {I : Nat → Nat → Int} {r q : Nat} {f : Nat → Int} (h : q ≠ r) (k : Nat) (hk : k < 496) : gro (sro I r f) q k = gro I q k := gro_n hk h
theorem zt_c {f g : Nat → Int} (h : ∀ k, k < 496 → f k = g k) : zt f = zt g := by
  have hp : (fun m => decide (¬ f (495 - m) = 0)) = (fun m => decide (¬ g (495 - m) = 0)) := by
    funext m
    rw [h (495 - m) (by omega)]
  unfold zt
  rw [hp]
theorem dgr_c {f g : Nat → Int} (h : ∀ k, k < 496 → f k = g k) : dgr f = dgr g := by unfold dgr; rw [zt_c h]
set_option maxRecDepth 10000 in
theorem s_addsBehind {d L : Nat} {I : Nat → Nat → Int} {R : Nat → Nat → Option Nat} {u : Int64} (hF : FixR R) {p q fr to : Nat} {c : Int} {f : Nat → Int} (hR : Res I) (hf : resd f) (hT : Tabs I) (hc : 0 ≤ c ∧ c < 10007) (hs : ((p + q : Nat) : Int) + dgr (gro I fr) ≤ 30) (h1 : fr < 46) (h2 : to < 46) (hne : fr ≠ to) : am_run am_tb (d + 3) 151 [vR 301, vI p, vI q, vI c, vI fr, vI to] (LH L (sro I to f) R u) = some ([], LH L (sro I to (abF p q c (gro I fr) f (wds (gro I fr)))) R u) := by
  refine run_of tb_X12_addsBehind (Nat.le_of_ble_eq_true rfl) ?_
  show ∃ ls', am_ev (am_run am_tb (d + 2)) tX12_addsBehind ([vR 301, vI p, vI q, vI c, vI fr, vI to, vU, vU, vU], [], (LH L (sro I to f) R u)) = some (1, ls', [], LH L (sro I to (abF p q c (gro I fr) f (wds (gro I fr)))) R u)
  apply Exists.intro
  unfold tX12_addsBehind
  apply t_Q
  · apply t_S
    refine x_aload_n rfl ?_
    refine x_iload rfl ?_
    refine x_V2i tg_301 (Nat.le_of_ble_eq_true rfl) ((s_degreeIn (d := d) (I := sro I to f) hF (Res_s hR hf) (Tabs_s hT) h1).trans (show _ = some ([vI (dgr (gro I fr))], _) from by rw [dgr_c (gro_sn hne)])) ?_
    refine x_istore rfl ?_
    refine x_iconst ?_
    refine x_istore rfl ?_
    exact rfl
  apply t_Q
  · apply t_K
    apply t_W
    exact lp_addsBehind (d := d) hF hR hf hT hc hs h1 h2 hne
  apply t_B
  · exact rfl
  exact rfl
/-- g times h: the first k words of g -/
def muF (g h : Nat → Int) : Nat → Nat → Int
  | 0 => fun _ => 0
  | k + 1 => if g k = 0 then muF g h k else abF (xw k) (dw k) (g k) h (muF g h k) (wds h)
theorem muF_b {g h : Nat → Int} (k : Nat) : resd (muF g h k) := by
  induction k with
  | zero => intro w hw; exact ⟨Int.le_refl 0, by show (0 : Int) < 10007; decide⟩
  | succ k ih =>
    show resd (if g k = 0 then muF g h k else abF (xw k) (dw k) (g k) h (muF g h k) (wds h))
    split
    · exact ih
    · exact abF_b ih _
set_option maxRecDepth 10000 in
theorem lp_multiplies {d L : Nat} {I : Nat → Nat → Int} {R : Nat → Nat → Option Nat} {u : Int64} (hF : FixR R) {t w to : Nat} (hR : Res I) (hT : Tabs I) (hs : dgr (gro I t) + dgr (gro I w) ≤ 30) (h1 : t < 46) (h2 : w < 46) (h3 : to < 46) (hne : t ≠ to) (hne2 : w ≠ to) : am_lp (am_ev (am_run am_tb (d + 3)) wX12_multiplies_15) 15 am_F ([vR 301, vI t, vI w, vI to, vI (dgr (gro I t)), vI 0, vU], [], LH L (sro I to (fun _ => 0)) R u) = some (81, ([vR 301, vI t, vI w, vI to, vI (dgr (gro I t)), vI (wds (gro I t) : Nat), gov (gro I t) (wds (gro I t))], [], LH L (sro I to (muF (gro I t) (gro I w) (wds (gro I t)))) R u)) := by
  have hN := wds_dgr (gro I t)
  have hN5 := wds_496 (gro I t)
  refine lp_up0 (fun k => ([vR 301, vI t, vI w, vI to, vI (dgr (gro I t)), vI k, gov (gro I t) k], [], LH L (sro I to (muF (gro I t) (gro I w) k)) R u)) (wds (gro I t)) rfl (ltF (by first | decide | omega)) (by show ¬ 81 = 15 + 2; decide) (fun k hk => ?_) ?_
  · have hk5 : k < 496 := Nat.lt_of_lt_of_le hk (wds_496 _)
    have hwn := wds_wn hk
    have hxd := xw_dw k
    have hv := Res_g hR t k
    have e1 : gro (sro I to (muF (gro I t) (gro I w) k)) t k = gro I t k := gro_n hk5 hne
    by_cases c0 : gro I t k = 0
    · unfold wX12_multiplies_15
      apply t_Q
      · apply t_B
        · refine x_iload rfl ?_
          refine x_iload rfl ?_
          refine x_iconst ?_
          refine x_iadd ?_
          refine x_iload rfl ?_
          refine x_iconst ?_
          refine x_iadd ?_
          refine x_imul ?_
          refine x_iconst ?_
          refine x_idiv0 (by omega) ?_
          exact rfl
        exact t_ic_ge_f (by omega)
      apply t_Q
      · apply t_S
        refine x_aload_n rfl ?_
        refine x_gr tg_301 rfl (fx_301_6 hF) ?_
        refine x_sipush ?_
        refine x_iload_n rfl ?_
        refine x_imul ?_
        refine x_iload rfl ?_
        refine x_iadd ?_
        refine x_wld t k (by omega) e1 ?_
        refine x_istore rfl ?_
        refine x_iload rfl ?_
        exact rfl
      apply t_Q
      · apply t_K
        apply t_Qs
        apply t_B
        · exact rfl
        exact t_if_eq_t (by omega)
      apply t_B
      · refine x_iinc rfl rfl ?_
        exact rfl
      exact t_goeq (s3 rfl (show _ = sro I to (muF (gro I t) (gro I w) (k + 1)) from by show _ = sro I to (if _ then _ else _); rw [if_pos c0]))
    unfold wX12_multiplies_15
    apply t_Q
    · apply t_B
      · refine x_iload rfl ?_
        refine x_iload rfl ?_
        refine x_iconst ?_
        refine x_iadd ?_
        refine x_iload rfl ?_
        refine x_iconst ?_
        refine x_iadd ?_
        refine x_imul ?_
        refine x_iconst ?_
        refine x_idiv0 (by omega) ?_
        exact rfl
      exact t_ic_ge_f (by omega)
    apply t_Q
    · apply t_S
      refine x_aload_n rfl ?_
      refine x_gr tg_301 rfl (fx_301_6 hF) ?_
      refine x_sipush ?_
      refine x_iload_n rfl ?_
      refine x_imul ?_
      refine x_iload rfl ?_
      refine x_iadd ?_
      refine x_wld t k (by omega) e1 ?_
      refine x_istore rfl ?_
      refine x_iload rfl ?_
      exact rfl
    apply t_Q
    · apply t_Ks
      · apply t_Q
        · apply t_B
          · exact rfl
          exact t_if_eq_f (by omega)
        apply t_S
        refine x_aload_n rfl ?_
        refine x_aload_n rfl ?_
        refine x_gr tg_301 rfl (fx_301_7 hF) ?_
        refine x_iload rfl ?_
        refine x_ialdv (Or.inl tg_307) (ln_307 L) (by omega) (show _ = ((xw k : Nat) : Int) from by rw [sro_o (by decide)]; exact hT.1 k hk5) ?_
        refine x_aload_n rfl ?_
        refine x_gr tg_301 rfl (fx_301_8 hF) ?_
        refine x_iload rfl ?_
        refine x_ialdv (Or.inl tg_308) (ln_308 L) (by omega) (show _ = ((dw k : Nat) : Int) from by rw [sro_o (by decide)]; exact hT.2.1 k hk5) ?_
        refine x_iload rfl ?_
        refine x_iload_n rfl ?_
        refine x_iload_n rfl ?_
        refine x_V6v tg_301 (Nat.le_of_ble_eq_true rfl) (s_addsBehind (d := d) hF hR (muF_b k) hT hv (by omega) h2 h3 hne2) ?_
        exact rfl
      · decide
    apply t_B
    · refine x_iinc rfl rfl ?_
      exact rfl
    exact t_goeq (s3 rfl (show _ = sro I to (muF (gro I t) (gro I w) (k + 1)) from by show _ = sro I to (if _ then _ else _); rw [if_neg c0]))
  · unfold wX12_multiplies_15
    apply t_Qs
    apply t_B
    · refine x_iload rfl ?_
      refine x_iload rfl ?_
      refine x_iconst ?_
      refine x_iadd ?_
      refine x_iload rfl ?_
      refine x_iconst ?_
      refine x_iadd ?_
      refine x_imul ?_
      refine x_iconst ?_
      refine x_idiv0 (by omega) ?_
      exact rfl
    exact t_ic_ge_t (by omega)
set_option maxRecDepth 10000 in
theorem s_multiplies {d L : Nat} {I : Nat → Nat → Int} {R : Nat → Nat → Option Nat} {u : Int64} (hF : FixR R) {t w to : Nat} (hR : Res I) (hT : Tabs I) (hs : dgr (gro I t) + dgr (gro I w) ≤ 30) (h1 : t < 46) (h2 : w < 46) (h3 : to < 46) (hne : t ≠ to) (hne2 : w ≠ to) : am_run am_tb (d + 4) 152 [vR 301, vI t, vI w, vI to] (LH L I R u) = some ([], LH L (sro I to (muF (gro I t) (gro I w) (wds (gro I t)))) R u) := by
  refine run_of tb_X12_multiplies (Nat.le_of_ble_eq_true rfl) ?_
  show ∃ ls', am_ev (am_run am_tb (d + 3)) tX12_multiplies ([vR 301, vI t, vI w, vI to, vU, vU, vU], [], (LH L I R u)) = some (1, ls', [], LH L (sro I to (muF (gro I t) (gro I w) (wds (gro I t)))) R u)
  apply Exists.intro
  unfold tX12_multiplies
  apply t_Q
  · apply t_S
    refine x_aload_n rfl ?_
    refine x_iload_n rfl ?_
    refine x_V2v tg_301 (Nat.le_of_ble_eq_true rfl) (s_wip (d := d + 2) hF h3) ?_
    refine x_aload_n rfl ?_
    refine x_iload_n rfl ?_
    refine x_V2i tg_301 (Nat.le_of_ble_eq_true rfl) ((s_degreeIn (d := d + 1) (I := sro I to (fun _ => 0)) hF (Res_s hR (fun _ _ => ⟨Int.le_refl 0, by decide⟩)) (Tabs_s hT) h1).trans (show _ = some ([vI (dgr (gro I t))], _) from by rw [dgr_c (gro_sn hne)])) ?_
    refine x_istore rfl ?_
    refine x_iconst ?_
    refine x_istore rfl ?_
    exact rfl
  apply t_Q
  · apply t_K
    apply t_W
    exact lp_multiplies (d := d) hF hR hT hs h1 h2 h3 hne hne2
  apply t_B
  · exact rfl
  exact rfl
