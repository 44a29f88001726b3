/-! The class: products, powers. Written by wip/whole/gen_81.py. -/
theorem cl_o {I J : Nat → Nat → Int} {c : Nat} (h : J c = I c) : cl J c = cl I c := by
  unfold cl
  rw [h]
theorem cl_e {I J : Nat → Nat → Int} {c : Nat} (h : ∀ j, j < 91 → J c j = I c j) : cl J c = cl I c := by
  funext j
  unfold cl
  split
  · exact h j (by omega)
  · rfl
theorem smk_ext {t : Nat → Int} {n m : Nat} (hnm : n ≤ m) (h : ∀ k, n ≤ k → k < m → t k = 0) : smk t m = smk t n := by
  induction m with
  | zero => rw [show n = 0 by omega]
  | succ m ih =>
    by_cases e : n = m + 1
    · rw [e]
    · show smk t m + t m = _
      rw [h m (by omega) (by omega), Int.add_zero]
      exact ih (by omega) (fun k h1 h2 => h k h1 (by omega))
theorem smk_c {s t : Nat → Int} {n : Nat} (h : ∀ k, k < n → s k = t k) : smk s n = smk t n := by
  induction n with
  | zero => rfl
  | succ n ih =>
    show smk s n + s n = smk t n + t n
    rw [ih (fun k hk => h k (by omega)), h n (by omega)]
/-- the first k words of a row times the first n words of another one, at a word -/
def prn (g h : Nat → Int) (n k w : Nat) : Int := smk (fun m => g m * cor (xw m) (dw m) h n w) k
/-- a product at a word -/
def prd (g h : Nat → Int) (w : Nat) : Int := prn g h 496 496 w
theorem cor_ext {p q n w : Nat} {h : Nat → Int} (hn : n ≤ 496) (hz : ∀ k, n ≤ k → k < 496 → h k = 0) : cor p q h 496 w = cor p q h n w := smk_ext hn (fun k h1 h2 => by
  show h k * _ = 0
  rw [hz k h1 h2, Int.zero_mul])
theorem prn_ext {g h : Nat → Int} {n k w : Nat} (hn : n ≤ 496) (hk : k ≤ 496) (hz : ∀ m, n ≤ m → m < 496 → h m = 0) (gz : ∀ m, k ≤ m → m < 496 → g m = 0) : prd g h w = prn g h n k w := by
  unfold prd prn
  rw [smk_ext hk (fun m h1 h2 => by show g m * _ = 0; rw [gz m h1 h2, Int.zero_mul])]
  exact smk_c (fun m _ => by rw [cor_ext hn hz])
theorem prd_c {g g' h h' : Nat → Int} (e1 : ∀ k, k < 496 → g k = g' k) (e2 : ∀ k, k < 496 → h k = h' k) (w : Nat) : prd g h w = prd g' h' w := by
  unfold prd prn
  refine smk_c (fun m hm => ?_)
  rw [e1 m hm]
  refine congrArg (g' m * ·) ?_
  unfold cor
  exact smk_c (fun k hk => by rw [e2 k hk])
theorem wds_z {f : Nat → Int} {k : Nat} (hk : k < 496) (h : wds f ≤ k) : f k = 0 := by
  refine Decidable.byContradiction fun q => ?_
  have := lt_wds hk q
  omega
/-- the reference's product, by its values -/
theorem mul_v {g h : Nat → Int} (hg : resa g) (hh : resa h) {w : Nat} (hw : w < 496) : mul g h w = prd g h w % 10007 := by
  have key : ∀ k, muF g h k w = prn g h (wds h) k w % 10007 := by
    intro k
    induction k with
    | zero => rfl
    | succ k ih =>
      show (if g k = 0 then muF g h k else abF (xw k) (dw k) (g k) h (muF g h k) (wds h)) w = (prn g h (wds h) k w + g k * cor (xw k) (dw k) h (wds h) w) % 10007
      by_cases e : g k = 0
      · rw [if_pos e, e, Int.zero_mul, Int.add_zero, ih]
      · rw [if_neg e, abF_v (muF_b k) (hg k) hh hw, ih]
        omega
  unfold mul
  rw [key, prn_ext (wds_496 h) (wds_496 g) (fun m h1 h2 => wds_z h2 h1) (fun m h1 h2 => wds_z h2 h1)]
theorem ext_z {I : Nat → Nat → Int} {c m : Nat} (h1 : 496 - zt (cl I c) ≤ m) (h2 : m < 496) : cl I c m = 0 := by
  by_cases h : m < 91
  · rw [cl_s h]; exact ext_no h1 h
  · exact cl_z (by omega)
set_option maxRecDepth 10000 in
theorem lp1_prod {d L : Nat} {I : Nat → Nat → Int} {R : Nat → Nat → Option Nat} {u : Int64} {a c b e l g : Nat} (hF : FixR R) (hB : Tbc I) (ha : Opx R a c) (hl : Opx R l g) (hb : Opx R b e) (hN : Nt c) (hce : e ≠ c) (hgc : g ≠ c) (hc : Rsc I c) (he : Rsc I e) (hg : Rsc I g) {v : Int} (hv : 0 ≤ v ∧ v < 10007) (hd : dgr (cl I g) < 0 ∨ dgr (cl I e) < 0 ∨ dgr (cl I g) + dgr (cl I e) ≤ 12) : ∃ r, am_lp (am_ev (am_run am_tb (d + 2)) wX1_addProduct_16) 16 am_F ([vR 110, vR a, vI v, vR l, vR b, vI ((496 - zt (cl I g)) : Nat), vI ((496 - zt (cl I e)) : Nat), vI 0, vU], [], LH L I R u) = some r ∧ ∃ w8, r = (64, [vR 110, vR a, vI v, vR l, vR b, vI ((496 - zt (cl I g)) : Nat), vI ((496 - zt (cl I e)) : Nat), vI ((496 - zt (cl I g)) : Nat), w8], [], LH L (stc I c (fun w => (I c w + v * prn (cl I g) (cl I e) (496 - zt (cl I e)) (496 - zt (cl I g)) w) % 10007)) R u) := by
  have hbG := ext_b (I := I) (c := g)
  refine lp_inv (fun k y => ∃ w8, y = ([vR 110, vR a, vI v, vR l, vR b, vI ((496 - zt (cl I g)) : Nat), vI ((496 - zt (cl I e)) : Nat), vI k, w8], [], LH L (stc I c (fun w => (I c w + v * prn (cl I g) (cl I e) (496 - zt (cl I e)) k w) % 10007)) R u)) _ (496 - zt (cl I g)) ⟨_, s3 rfl (stc_id (fun w hw => ?_)).symm⟩ (ltF (by omega)) (fun k y hk hp => ?_) (fun y hp => ?_)
  · have := hc w hw
    show (I c w + v * 0) % 10007 = I c w
    rw [Int.mul_zero]
    omega
  · obtain ⟨w8, e0⟩ := hp
    subst e0
    have hbE := ext_b (I := I) (c := e)
    have hbG := ext_b (I := I) (c := g)
    have hgk := hg k (by omega)
    have m1 := mul_b (a := v) (b := I g k) (m := 10006) (n := 10006) (by omega) (by omega)
    have hnext : ∀ w, prn (cl I g) (cl I e) (496 - zt (cl I e)) (k + 1) w = prn (cl I g) (cl I e) (496 - zt (cl I e)) k w + I g k * cor (xw k) (dw k) (cl I e) (496 - zt (cl I e)) w := fun w => by
      show _ + cl I g k * _ = _
      rw [cl_s (by omega)]
      rfl
    by_cases q0 : I g k = 0
    · have hg2 : (stc I c (fun w => (I c w + v * prn (cl I g) (cl I e) (496 - zt (cl I e)) k w) % 10007)) = (stc I c (fun w => (I c w + v * prn (cl I g) (cl I e) (496 - zt (cl I e)) (k + 1) w) % 10007)) := stc_c (fun w hw => by
        rw [hnext, q0, Int.zero_mul, Int.add_zero])
      refine inv_e1 (ls := fun w8 => [vR 110, vR a, vI v, vR l, vR b, vI ((496 - zt (cl I g)) : Nat), vI ((496 - zt (cl I e)) : Nat), vI ((k + 1 : Nat) : Int), w8]) (h := LH L (stc I c (fun w => (I c w + v * prn (cl I g) (cl I e) (496 - zt (cl I e)) (k + 1) w) % 10007)) R u) ?_ (fun _ => ⟨_, rfl⟩)
      apply Exists.intro
      rw [← hg2]
      unfold wX1_addProduct_16
      apply t_Q
      · apply t_B
        · refine x_iload rfl ?_
          refine x_iload rfl ?_
          exact rfl
        exact t_ic_ge_f (by omega)
      apply t_Q
      · apply t_S
        refine x_aload_n rfl ?_
        refine x_gr hl.1 rfl hl.2.1 ?_
        refine x_iload rfl ?_
        refine x_ialdv (Or.inl hl.2.2.1) (hl.2.2.2 L) (by omega) (show _ = I g k from congrFun (stc_o hgc) k) ?_
        refine x_istore rfl ?_
        refine x_iload rfl ?_
        exact rfl
      apply t_Q
      · apply t_K
        apply t_Qs
        apply t_B
        · exact rfl
        exact t_if_eq_t (by omega)
      apply t_B
      · refine x_iinc rfl rfl ?_
        exact rfl
      exact t_goeq rfl
    · have d1 := dgr_ge (f := cl I g) (w := k) (by omega) (by rw [cl_s (by omega)]; exact q0)
      have hcall := s1_addWord (d := d) (L := L) (u := u) (I := (stc I c (fun w => (I c w + v * prn (cl I g) (cl I e) (496 - zt (cl I e)) k w) % 10007))) hF (Tbc_s hB hN) ha hb hN hce (fun j hj => by rw [stc_s hj]; omega) (fun j hj => by rw [stc_o hce]; exact he j hj) (v := v * I g k % 10007) (by omega) (z := k) (n := (496 - zt (cl I e))) (by omega) (by omega) (fun m hm hne => by
        rw [stc_o hce] at hne
        have d2 := dgr_ge (f := cl I e) (w := m) (by omega) (by rw [cl_s (by omega)]; exact hne)
        omega)
      rw [stc_stc, cl_o (stc_o hce)] at hcall
      have hg2 : stc I c (fun w => ((stc I c (fun w => (I c w + v * prn (cl I g) (cl I e) (496 - zt (cl I e)) k w) % 10007)) c w + v * I g k % 10007 * cor (xw k) (dw k) (cl I e) (496 - zt (cl I e)) w) % 10007) = (stc I c (fun w => (I c w + v * prn (cl I g) (cl I e) (496 - zt (cl I e)) (k + 1) w) % 10007)) := stc_c (fun w hw => by
        rw [stc_s hw, hnext, Int.mul_add, ← Int.mul_assoc v]
        have := em1 (v * I g k) (cor (xw k) (dw k) (cl I e) (496 - zt (cl I e)) w)
        omega)
      rw [hg2] at hcall
      refine inv_e1 (ls := fun w8 => [vR 110, vR a, vI v, vR l, vR b, vI ((496 - zt (cl I g)) : Nat), vI ((496 - zt (cl I e)) : Nat), vI ((k + 1 : Nat) : Int), w8]) (h := LH L (stc I c (fun w => (I c w + v * prn (cl I g) (cl I e) (496 - zt (cl I e)) (k + 1) w) % 10007)) R u) ?_ (fun _ => ⟨_, rfl⟩)
      apply Exists.intro
      unfold wX1_addProduct_16
      apply t_Q
      · apply t_B
        · refine x_iload rfl ?_
          refine x_iload rfl ?_
          exact rfl
        exact t_ic_ge_f (by omega)
      apply t_Q
      · apply t_S
        refine x_aload_n rfl ?_
        refine x_gr hl.1 rfl hl.2.1 ?_
        refine x_iload rfl ?_
        refine x_ialdv (Or.inl hl.2.2.1) (hl.2.2.2 L) (by omega) (show _ = I g k from congrFun (stc_o hgc) k) ?_
        refine x_istore rfl ?_
        refine x_iload rfl ?_
        exact rfl
      apply t_Q
      · apply t_Ks
        · apply t_Q
          · apply t_B
            · exact rfl
            exact t_if_eq_f (by omega)
          apply t_S
          refine x_aload_n rfl ?_
          refine x_aload_n rfl ?_
          refine x_iload_n rfl ?_
          refine x_iload rfl ?_
          refine x_imul ?_
          refine x_sipush ?_
          refine x_irem0 (by omega) ?_
          refine x_iload rfl ?_
          refine x_aload rfl ?_
          refine x_iload rfl ?_
          refine x_V6v tg_110 (Nat.le_of_ble_eq_true rfl) (hcall) ?_
          exact rfl
        · decide
      apply t_B
      · refine x_iinc rfl rfl ?_
        exact rfl
      exact t_goeq rfl
  · obtain ⟨w8, e0⟩ := hp
    subst e0
    refine ⟨(64, [vR 110, vR a, vI v, vR l, vR b, vI ((496 - zt (cl I g)) : Nat), vI ((496 - zt (cl I e)) : Nat), vI ((496 - zt (cl I g)) : Nat), w8], [], LH L (stc I c (fun w => (I c w + v * prn (cl I g) (cl I e) (496 - zt (cl I e)) (496 - zt (cl I g)) w) % 10007)) R u), ?_, by show ¬ 64 = 16 + 2; decide, ⟨w8, rfl⟩⟩
    unfold wX1_addProduct_16
    apply t_Qs
    apply t_B
    · refine x_iload rfl ?_
      refine x_iload rfl ?_
      exact rfl
    exact t_ic_ge_t (by omega)
set_option maxRecDepth 10000 in
theorem s1_addProduct {d L : Nat} {I : Nat → Nat → Int} {R : Nat → Nat → Option Nat} {u : Int64} {a c b e l g : Nat} (hF : FixR R) (hB : Tbc I) (ha : Opx R a c) (hl : Opx R l g) (hb : Opx R b e) (hN : Nt c) (hce : e ≠ c) (hgc : g ≠ c) (hc : Rsc I c) (he : Rsc I e) (hg : Rsc I g) {v : Int} (hv : 0 ≤ v ∧ v < 10007) (hd : dgr (cl I g) < 0 ∨ dgr (cl I e) < 0 ∨ dgr (cl I g) + dgr (cl I e) ≤ 12) : am_run am_tb (d + 3) 14 [vR 110, vR a, vI v, vR l, vR b] (LH L I R u) = some ([], LH L (stc I c (fun w => (I c w + v * prd (cl I g) (cl I e) w) % 10007)) R u) := by
  refine run_of tb_X1_addProduct (Nat.le_of_ble_eq_true rfl) ?_
  show ∃ ls', am_ev (am_run am_tb (d + 2)) tX1_addProduct ([vR 110, vR a, vI v, vR l, vR b, vU, vU, vU, vU], [], (LH L I R u)) = some (1, ls', [], LH L (stc I c (fun w => (I c w + v * prd (cl I g) (cl I e) w) % 10007)) R u)
  obtain ⟨r, hlp, w8, er⟩ := lp1_prod (d := d) (L := L) (u := u) hF hB ha hl hb hN hce hgc hc he hg hv hd
  subst er
  have hq : (stc I c (fun w => (I c w + v * prn (cl I g) (cl I e) (496 - zt (cl I e)) (496 - zt (cl I g)) w) % 10007)) = (stc I c (fun w => (I c w + v * prd (cl I g) (cl I e) w) % 10007)) := stc_c (fun w hw => by
    rw [prn_ext (g := cl I g) (h := cl I e) (n := (496 - zt (cl I e))) (k := (496 - zt (cl I g))) (by omega) (by omega) (fun m h1 h2 => ext_z h1 h2) (fun m h1 h2 => ext_z h1 h2)])
  rw [hq] at hlp
  apply Exists.intro
  unfold tX1_addProduct
  apply t_Q
  · apply t_S
    refine x_aload_n rfl ?_
    refine x_V1i hl.1 (Nat.le_of_ble_eq_true rfl) (s6_extent (d := d + 1) hl hg) ?_
    refine x_istore rfl ?_
    refine x_aload rfl ?_
    refine x_V1i hb.1 (Nat.le_of_ble_eq_true rfl) (s6_extent (d := d + 1) hb he) ?_
    refine x_istore rfl ?_
    refine x_iconst ?_
    refine x_istore rfl ?_
    exact rfl
  apply t_Q
  · apply t_K
    apply t_W
    exact hlp
  apply t_B
  · exact rfl
  exact rfl
/-- powers, the base on the left -/
def powL (g : Nat → Int) : Nat → Nat → Int
  | 0 => one
  | k + 1 => mul g (powL g k)
theorem powL_b {g : Nat → Int} (k : Nat) : resd (powL g k) := by
  cases k with
  | zero => exact one_b
  | succ k => exact mul_r
theorem powL_d {g : Nat → Int} (k : Nat) : dgr (powL g k) ≤ (k : Int) * max 0 (dgr g) := by
  induction k with
  | zero => rw [show ((0 : Nat) : Int) = 0 from rfl, Int.zero_mul]; exact one_d
  | succ k ih =>
    have h1 := mul_d (g := g) (h := powL g k)
    have h2 : ((k + 1 : Nat) : Int) * max 0 (dgr g) = (k : Int) * max 0 (dgr g) + max 0 (dgr g) := by
      rw [show ((k + 1 : Nat) : Int) = (k : Int) + 1 by omega, Int.add_mul, Int.one_mul]
    have h3 : 0 ≤ (k : Int) * max 0 (dgr g) := Int.mul_nonneg (by omega) (by omega)
    show dgr (mul g (powL g k)) ≤ _
    omega
theorem cl_a2 {I : Nat → Nat → Int} {c : Nat} {f : Nat → Int} (h : ∀ j, j < 91 → I c j = f j) (hd : dgr f ≤ 12) : ∀ k, k < 496 → cl I c k = f k := by
  intro k hk
  by_cases q : k < 91
  · rw [cl_s q]; exact h k q
  · rw [cl_z (by omega)]
    refine (dgr_z hk ?_).symm
    have h1 := (wn_b k).2
    have h2 : ¬ wn k ≤ 12 := fun z => by
      have := tri_m (show wn k + 1 ≤ 13 by omega)
      rw [tri_13] at this
      omega
    omega
theorem op_157 {R : Nat → Nat → Option Nat} (hF : FixR R) : Opx R 157 158 := ⟨tg_157, fx_157_0 hF, tg_158, ln_158⟩
theorem stc_cm {I : Nat → Nat → Int} {r q : Nat} {f g : Nat → Int} (h : r ≠ q) : stc (stc I r f) q g = stc (stc I q g) r f := by
  funext a j
  by_cases e1 : a = q
  · subst e1
    rw [stc_o (c := r) (Ne.symm h)]
    by_cases h9 : j < 91
    · rw [stc_s h9, stc_s h9]
    · rw [stc_g (by omega), stc_g (by omega), stc_o (Ne.symm h)]
  · rw [stc_o e1]
    by_cases e2 : a = r
    · subst e2
      by_cases h9 : j < 91
      · rw [stc_s h9, stc_s h9]
      · rw [stc_g (by omega), stc_g (by omega), stc_o h]
    · rw [stc_o e2, stc_o e2, stc_o e1]
set_option maxRecDepth 10000 in
theorem lp1_raise {d L : Nat} {I : Nat → Nat → Int} {R : Nat → Nat → Option Nat} {u : Int64} {a c b e : Nat} (hF : FixR R) (hB : Tbc I) (ha : Opx R a c) (hb : Opx R b e) (hN : Nt c) (hce : e ≠ c) (hc8 : c ≠ 158) (he8 : e ≠ 158) (he : Rsc I e) {n : Nat} (hn : n ≤ 99) (hd : dgr (cl I e) < 0 ∨ dgr (cl I e) * (n : Int) ≤ 12) : am_lp (am_ev (am_run am_tb (d + 3)) wX1_raise_8) 8 am_F ([vR 110, vR a, vR b, vI n, vI 0], [], LH L (stc I c one) R u) = some (48, [vR 110, vR a, vR b, vI n, vI n], [], LH L (stc (stc I 158 (if n = 0 then I 158 else powL (cl I e) n)) c (powL (cl I e) n)) R u) := by
  refine lp_up0 (fun k => ([vR 110, vR a, vR b, vI n, vI k], [], LH L (stc (stc I 158 (if k = 0 then I 158 else powL (cl I e) k)) c (powL (cl I e) k)) R u)) n (s3 rfl ?_) (ltF (by omega)) (by show ¬ 48 = 8 + 2; decide) (fun k hk => ?_) ?_
  · rw [if_pos rfl, stc_id (c := 158) (f := I 158) (fun j _ => rfl)]
    rfl
  · have hdk := powL_d (g := cl I e) k
    have hdb := dgr_b (cl I e)
    have hfit : dgr (cl I e) < 0 ∨ dgr (cl I e) + dgr (powL (cl I e) k) ≤ 12 := by
      rcases hd with hd | hd
      · exact Or.inl hd
      · by_cases hz : dgr (cl I e) < 0
        · exact Or.inl hz
        · right
          have e1 : (k : Int) * max 0 (dgr (cl I e)) + dgr (cl I e) = ((k + 1 : Nat) : Int) * dgr (cl I e) := by
            rw [show max 0 (dgr (cl I e)) = dgr (cl I e) by omega, show ((k + 1 : Nat) : Int) = (k : Int) + 1 by omega, Int.add_mul, Int.one_mul]
          have e2 : ((k + 1 : Nat) : Int) * dgr (cl I e) ≤ (n : Int) * dgr (cl I e) := Int.mul_le_mul_of_nonneg_right (by omega) (by omega)
          have e3 : dgr (cl I e) * (n : Int) = (n : Int) * dgr (cl I e) := Int.mul_comm _ _
          omega
    have hdp : dgr (powL (cl I e) k) ≤ 12 := by
      rcases hfit with hf | hf
      · rw [show max 0 (dgr (cl I e)) = 0 by omega, Int.mul_zero] at hdk
        omega
      · by_cases hz : dgr (cl I e) < 0
        · rw [show max 0 (dgr (cl I e)) = 0 by omega, Int.mul_zero] at hdk
          omega
        · omega
    have hz1 := s6_makeZero (d := d + 1) (L := L) (u := u) (I := (stc (stc I 158 (if k = 0 then I 158 else powL (cl I e) k)) c (powL (cl I e) k))) (op_157 hF)
    have hcl : ∀ j, j < 496 → cl (stc (stc (stc I 158 (if k = 0 then I 158 else powL (cl I e) k)) c (powL (cl I e) k)) 158 (fun _ => 0)) c j = powL (cl I e) k j := cl_a2 (fun j hj => by rw [stc_o hc8, stc_s hj]) hdp
    have hce2 : cl (stc (stc (stc I 158 (if k = 0 then I 158 else powL (cl I e) k)) c (powL (cl I e) k)) 158 (fun _ => 0)) e = cl I e := cl_o (by rw [stc_o he8, stc_o hce, stc_o he8])
    have hp1 := s1_addProduct (d := d) (L := L) (u := u) (I := stc (stc (stc I 158 (if k = 0 then I 158 else powL (cl I e) k)) c (powL (cl I e) k)) 158 (fun _ => 0)) hF (Tbc_s (Tbc_s (Tbc_s hB (by unfold Nt; omega)) hN) (by unfold Nt; omega)) (op_157 hF) hb ha (by unfold Nt; omega) hc8 he8 (fun j hj => by rw [stc_s hj]; omega) (fun j hj => by rw [stc_o hc8, stc_s hj]; exact powL_b k j (by omega)) (fun j hj => by rw [stc_o he8, stc_o hce, stc_o he8]; exact he j hj) (v := 1) (by omega) (by
      rw [hce2, dgr_c hcl]
      omega)
    rw [stc_stc] at hp1
    have hq : stc (stc (stc I 158 (if k = 0 then I 158 else powL (cl I e) k)) c (powL (cl I e) k)) 158 (fun w => (stc (stc (stc I 158 (if k = 0 then I 158 else powL (cl I e) k)) c (powL (cl I e) k)) 158 (fun _ => 0) 158 w + 1 * prd (cl (stc (stc (stc I 158 (if k = 0 then I 158 else powL (cl I e) k)) c (powL (cl I e) k)) 158 (fun _ => 0)) e) (cl (stc (stc (stc I 158 (if k = 0 then I 158 else powL (cl I e) k)) c (powL (cl I e) k)) 158 (fun _ => 0)) c) w) % 10007) = stc (stc (stc I 158 (if k = 0 then I 158 else powL (cl I e) k)) c (powL (cl I e) k)) 158 (powL (cl I e) (k + 1)) := stc_c (fun w hw => by
      rw [stc_s hw, Int.one_mul, Int.zero_add, hce2, prd_c (fun _ _ => rfl) hcl]
      have ha1 : resa (cl I e) := cl_a he
      show _ = mul (cl I e) (powL (cl I e) k) w
      have ha2 : ∀ j, j < 496 → (fun j => if j < 496 then powL (cl I e) k j else 0) j = powL (cl I e) k j := fun j hj => if_pos hj
      rw [← mul_c (fun _ _ => rfl) ha2, mul_v ha1 (fun j => by
        show 0 ≤ (if j < 496 then powL (cl I e) k j else 0) ∧ (if j < 496 then powL (cl I e) k j else 0) < 10007
        split
        · exact powL_b k j (by omega)
        · omega) (by omega), prd_c (fun _ _ => rfl) ha2])
    rw [hq] at hp1
    have hcp := s6_copyFrom (d := d + 2) (L := L) (u := u) (I := stc (stc (stc I 158 (if k = 0 then I 158 else powL (cl I e) k)) c (powL (cl I e) k)) 158 (powL (cl I e) (k + 1))) (R := R) ha (op_157 hF)
    have hst : stc (stc (stc (stc I 158 (if k = 0 then I 158 else powL (cl I e) k)) c (powL (cl I e) k)) 158 (powL (cl I e) (k + 1))) c (stc (stc (stc I 158 (if k = 0 then I 158 else powL (cl I e) k)) c (powL (cl I e) k)) 158 (powL (cl I e) (k + 1)) 158) = (stc (stc I 158 (if (k + 1) = 0 then I 158 else powL (cl I e) (k + 1))) c (powL (cl I e) (k + 1))) := by
      refine (stc_c (g := powL (cl I e) (k + 1)) (fun j hj => stc_s hj)).trans ?_
      rw [show (if k + 1 = 0 then I 158 else powL (cl I e) (k + 1)) = powL (cl I e) (k + 1) from if_neg (by omega), stc_cm hc8, stc_stc, stc_stc]
    rw [hst] at hcp
    generalize (stc (stc I 158 (if (k + 1) = 0 then I 158 else powL (cl I e) (k + 1))) c (powL (cl I e) (k + 1))) = Z at *
    generalize (stc (stc I 158 (if k = 0 then I 158 else powL (cl I e) k)) c (powL (cl I e) k)) = Y at *
    unfold wX1_raise_8
    apply t_Q
    · apply t_B
      · refine x_iload rfl ?_
        refine x_iload_n rfl ?_
        exact rfl
      exact t_ic_ge_f (by omega)
    apply t_B
    · refine x_aload_n rfl ?_
      refine x_gr tg_110 rfl (fx_110_2 hF) ?_
      refine x_V1v tg_157 (Nat.le_of_ble_eq_true rfl) (hz1) ?_
      refine x_aload_n rfl ?_
      refine x_aload_n rfl ?_
      refine x_gr tg_110 rfl (fx_110_2 hF) ?_
      refine x_iconst ?_
      refine x_aload_n rfl ?_
      refine x_aload_n rfl ?_
      refine x_V5v tg_110 (Nat.le_of_ble_eq_true rfl) (hp1) ?_
      refine x_aload_n rfl ?_
      refine x_aload_n rfl ?_
      refine x_gr tg_110 rfl (fx_110_2 hF) ?_
      refine x_V2v ha.1 (Nat.le_of_ble_eq_true rfl) (hcp) ?_
      refine x_iinc rfl rfl ?_
      exact rfl
    exact t_goeq rfl
  · unfold wX1_raise_8
    apply t_Qs
    apply t_B
    · refine x_iload rfl ?_
      refine x_iload_n rfl ?_
      exact rfl
    exact t_ic_ge_t (by omega)
set_option maxRecDepth 10000 in
theorem s1_raise {d L : Nat} {I : Nat → Nat → Int} {R : Nat → Nat → Option Nat} {u : Int64} {a c b e : Nat} (hF : FixR R) (hB : Tbc I) (ha : Opx R a c) (hb : Opx R b e) (hN : Nt c) (hce : e ≠ c) (hc8 : c ≠ 158) (he8 : e ≠ 158) (he : Rsc I e) {n : Nat} (hn : n ≤ 99) (hd : dgr (cl I e) < 0 ∨ dgr (cl I e) * (n : Int) ≤ 12) : am_run am_tb (d + 4) 16 [vR 110, vR a, vR b, vI n] (LH L I R u) = some ([], LH L (stc (stc I 158 (if n = 0 then I 158 else powL (cl I e) n)) c (powL (cl I e) n)) R u) := by
  refine run_of tb_X1_raise (Nat.le_of_ble_eq_true rfl) ?_
  show ∃ ls', am_ev (am_run am_tb (d + 3)) tX1_raise ([vR 110, vR a, vR b, vI n, vU], [], (LH L I R u)) = some (1, ls', [], LH L (stc (stc I 158 (if n = 0 then I 158 else powL (cl I e) n)) c (powL (cl I e) n)) R u)
  apply Exists.intro
  unfold tX1_raise
  apply t_Q
  · apply t_S
    refine x_aload_n rfl ?_
    refine x_iconst ?_
    refine x_V2v ha.1 (Nat.le_of_ble_eq_true rfl) (s6_makeNumber (d := d) ha) ?_
    refine x_iconst ?_
    refine x_istore rfl ?_
    exact rfl
  apply t_Q
  · apply t_K
    apply t_W
    exact lp1_raise (d := d) (L := L) (u := u) hF hB ha hb hN hce hc8 he8 he hn hd
  apply t_B
  · exact rfl
  exact rfl
