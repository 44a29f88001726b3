/-! The class: adjoints. Written by wip/whole/gen_82.py. -/
theorem s6_coefIn {d L : Nat} {I : Nat → Nat → Int} {R : Nat → Nat → Option Nat} {u : Int64} {a c : Nat} (ha : Opx R a c) {i j : Nat} (h : i + j ≤ 12) : am_run am_tb (d + 3) 51 [vR a, vI i, vI j] (LH L I R u) = some ([vI (I c (pl i j))], LH L I R u) := by
  have := s6_coefficient (d := d) (L := L) (I := I) (u := u) ha (i := (i : Nat)) (j := (j : Nat)) (by omega) (by omega)
  rw [if_pos (by omega), Int.toNat_natCast, Int.toNat_natCast] at this
  exact this
/-- the words x^i d^j of a row, as numbers in x alone -/
def spj (s : Nat → Int) (j i : Nat) : Nat → Int := fun w => if dw w = 0 ∧ xw w < i then s (pl (xw w) j) else 0
theorem spj_z {s : Nat → Int} {j i w : Nat} (hi : i ≤ 13) (hw : 91 ≤ w) : spj s j i w = 0 := by
  refine if_neg fun h => ?_
  have h1 := (wn_b w).2
  have h2 := xw_dw w
  have h3 := tri_m (show wn w + 1 ≤ 13 by omega)
  rw [tri_13] at h3
  omega
def sgj (j : Nat) : Int := if j % 2 = 0 then 1 else 10006
/-- the adjoint, up to d^n, at a word -/
def ajs (s : Nat → Int) (n w : Nat) : Int := smk (fun j => sgj j * cor 0 j (spj s j (13 - j)) 496 w) n
set_option maxRecDepth 10000 in
theorem lp1_adji {d L : Nat} {I : Nat → Nat → Int} {R : Nat → Nat → Option Nat} {u : Int64} {a c b e : Nat} (hF : FixR R) (hB : Tbc I) (ha : Opx R a c) (hb : Opx R b e) (hN : Nt c) (hce : e ≠ c) (hc8 : c ≠ 158) (he8 : e ≠ 158) (he : Rsc I e) {f : Nat → Int} {j : Nat} (hj : j ≤ 12) : am_lp (am_ev (am_run am_tb (d + 3)) wX1_adjoin_22) 22 am_F ([vR 110, vR a, vR b, vI j, vI 0], [], LH L (stc (stc I 158 (fun _ => 0)) c f) R u) = some (56, [vR 110, vR a, vR b, vI j, vI ((13 - j : Nat) : Int)], [], LH L (stc (stc I 158 (spj (cl I e) j (13 - j))) c f) R u) := by
  refine lp_up0 (fun i => ([vR 110, vR a, vR b, vI j, vI i], [], LH L (stc (stc I 158 (spj (cl I e) j i)) c f) R u)) (13 - j) (s3 rfl ?_) (ltF (by omega)) (by show ¬ 56 = 22 + 2; decide) (fun i hi => ?_) ?_
  · rw [stc_c (I := I) (c := 158) (f := spj (cl I e) j 0) (g := fun _ => 0) (fun w hw => if_neg (by omega))]
  · have hco := s6_coefIn (d := d) (L := L) (u := u) (I := (stc (stc I 158 (spj (cl I e) j i)) c f)) hb (i := i) (j := j) (by omega)
    have hp := pl_91 (i := i) (j := j) (by omega)
    have hp0 := pl_91 (i := i) (j := 0) (by omega)
    rw [stc_o hce, stc_o he8] at hco
    have hse := s6_setIn (d := d) (L := L) (u := u) (I := (stc (stc I 158 (spj (cl I e) j i)) c f)) (op_157 hF) (i := i) (j := 0) (by omega) (v := I e (pl i j))
    have hq : au (stc (stc I 158 (spj (cl I e) j i)) c f) 158 (au ((stc (stc I 158 (spj (cl I e) j i)) c f) 158) (pl i 0) (I e (pl i j))) = (stc (stc I 158 (spj (cl I e) j (i + 1))) c f) := by
      rw [stc_cm (Ne.symm hc8), stc_cm (Ne.symm hc8)]
      refine (stc_w (I := stc I c f) (c := 158) (t := pl i 0) (i := ((pl i 0 : Nat) : Int)) rfl hp0 (fun w hw => ?_))
      show (if dw w = 0 ∧ xw w < i + 1 then cl I e (pl (xw w) j) else 0) = if w = pl i 0 then I e (pl i j) else (if dw w = 0 ∧ xw w < i then cl I e (pl (xw w) j) else 0)
      by_cases ew : w = pl i 0
      · rw [if_pos ew, ew, xw_pl, dw_pl, if_pos ⟨rfl, by omega⟩, cl_s hp]
      · rw [if_neg ew]
        by_cases e2 : dw w = 0 ∧ xw w < i
        · rw [if_pos e2, if_pos ⟨e2.1, by omega⟩]
        · rw [if_neg e2, if_neg]
          intro e3
          apply ew
          rw [← pl_w w, e3.1, show xw w = i by omega]
    rw [hq] at hse
    generalize (stc (stc I 158 (spj (cl I e) j (i + 1))) c f) = Z at *
    generalize (stc (stc I 158 (spj (cl I e) j i)) c f) = W at *
    unfold wX1_adjoin_22
    apply t_Q
    · apply t_B
      · refine x_iload rfl ?_
        refine x_iload_n rfl ?_
        refine x_iadd ?_
        refine x_bipush ?_
        exact rfl
      exact t_ic_gt_f (by omega)
    apply t_B
    · refine x_aload_n rfl ?_
      refine x_gr tg_110 rfl (fx_110_2 hF) ?_
      refine x_iload rfl ?_
      refine x_iconst ?_
      refine x_aload_n rfl ?_
      refine x_iload rfl ?_
      refine x_iload_n rfl ?_
      refine x_V3i hb.1 (Nat.le_of_ble_eq_true rfl) (hco) ?_
      refine x_V4v tg_157 (Nat.le_of_ble_eq_true rfl) (hse) ?_
      refine x_iinc rfl rfl ?_
      exact rfl
    exact t_goeq rfl
  · unfold wX1_adjoin_22
    apply t_Qs
    apply t_B
    · refine x_iload rfl ?_
      refine x_iload_n rfl ?_
      refine x_iadd ?_
      refine x_bipush ?_
      exact rfl
    exact t_ic_gt_t (by omega)
def ajm (s : Nat → Int) (n : Nat) : Nat → Int := fun w => ajs s n w % 10007
theorem ajm_b (s : Nat → Int) (n w : Nat) : 0 ≤ ajm s n w ∧ ajm s n w < 10007 := by unfold ajm; omega
theorem ajm_0 (s : Nat → Int) (w : Nat) : ajm s 0 w = 0 := by
  show (0 : Int) % 10007 = 0
  decide
theorem ajm_s (s : Nat → Int) (n w : Nat) : (ajm s n w + sgj n * cor 0 n (spj s n (13 - n)) 496 w) % 10007 = ajm s (n + 1) w := by
  unfold ajm
  rw [show ajs s (n + 1) w = ajs s n w + sgj n * cor 0 n (spj s n (13 - n)) 496 w from rfl]
  omega
theorem st1_adj {d L : Nat} {I : Nat → Nat → Int} {R : Nat → Nat → Option Nat} {u : Int64} {a c : Nat} (hF : FixR R) (hB : Tbc I) (ha : Opx R a c) (hN : Nt c) (hc8 : c ≠ 158) {s : Nat → Int} (hs : resa s) {j : Nat} (hj : j ≤ 12) (h8 : ∀ k, k < 91 → I 158 k = spj s j (13 - j) k) (hcj : ∀ k, k < 91 → I c k = ajm s j k) : ∃ N : Nat, am_run am_tb (d + 2) 59 [vR 157] (LH L I R u) = some ([vI N], LH L I R u) ∧ am_run am_tb (d + 2) 15 [vR 110, vR a, vI (sgj j), vI (pl 0 j : Nat), vR 157, vI N] (LH L I R u) = some ([], LH L (stc I c (ajm s (j + 1))) R u) := by
  have hr8 : Rsc I 158 := fun w hw => by
    rw [h8 w hw]
    unfold spj
    split
    · exact hs _
    · omega
  have hex := s6_extent (d := d + 1) (L := L) (u := u) (op_157 hF) hr8
  have hb8 := ext_b (I := I) (c := 158)
  have hcl : ∀ k, k < 496 → cl I 158 k = spj s j (13 - j) k := fun k hk => by
    by_cases q : k < 91
    · rw [cl_s q, h8 k q]
    · rw [cl_z (by omega), spj_z (by omega) (by omega)]
  have hsg : 0 ≤ sgj j ∧ sgj j < 10007 := by unfold sgj; split <;> omega
  refine ⟨_, hex, ?_⟩
  have hcall := s1_addWord (d := d) (L := L) (u := u) hF hB ha (op_157 hF) hN (Ne.symm hc8) (fun w hw => by rw [hcj w hw]; exact ajm_b _ _ _) hr8 (v := sgj j) hsg (z := pl 0 j) (n := 496 - zt (cl I 158)) (pl_91 (by omega)) (by omega) (fun k hk hne => by
    rw [h8 k (by omega)] at hne
    have h2 : dw k = 0 ∧ xw k < 13 - j := Decidable.byContradiction fun q => hne (if_neg q)
    have h3 := xw_dw k
    rw [wn_pl]
    omega)
  have hq : ∀ w, w < 91 → (fun w => (I c w + sgj j * cor (xw (pl 0 j)) (dw (pl 0 j)) (cl I 158) (496 - zt (cl I 158)) w) % 10007) w = ajm s (j + 1) w := fun w hw => by
    show (I c w + sgj j * cor (xw (pl 0 j)) (dw (pl 0 j)) (cl I 158) (496 - zt (cl I 158)) w) % 10007 = ajm s (j + 1) w
    rw [xw_pl, dw_pl, ← cor_ext (by omega) (fun k h1 h2 => ext_z h1 h2), ← ajm_s, hcj w hw]
    have e3 : cor 0 j (cl I 158) 496 w = cor 0 j (spj s j (13 - j)) 496 w := smk_c (fun k hk => by rw [hcl k hk])
    rw [e3]
  rw [stc_c hq] at hcall
  exact hcall
set_option maxRecDepth 10000 in
theorem lp1_adjo {d L : Nat} {I : Nat → Nat → Int} {R : Nat → Nat → Option Nat} {u : Int64} {a c b e : Nat} (hF : FixR R) (hB : Tbc I) (ha : Opx R a c) (hb : Opx R b e) (hN : Nt c) (hce : e ≠ c) (hc8 : c ≠ 158) (he8 : e ≠ 158) (he : Rsc I e) : ∃ r, am_lp (am_ev (am_run am_tb (d + 4)) wX1_adjoin_6) 6 am_F ([vR 110, vR a, vR b, vI 0, vU], [], LH L (stc I c (fun _ => 0)) R u) = some r ∧ ∃ l4 y, r = (100, [vR 110, vR a, vR b, vI 13, l4], [], LH L (stc (stc I 158 y) c (ajm (cl I e) 13)) R u) := by
  refine lp_inv (fun j x => ∃ l4 y, x = ([vR 110, vR a, vR b, vI j, l4], [], LH L (stc (stc I 158 y) c (ajm (cl I e) j)) R u)) _ 13 ⟨_, I 158, s3 rfl ?_⟩ (ltF (by omega)) (fun j x hj hp => ?_) (fun x hp => ?_)
  · rw [stc_id (c := 158) (f := I 158) (fun j _ => rfl)]
    exact stc_c (fun w hw => (ajm_0 _ w).symm)
  · obtain ⟨l4, y, e0⟩ := hp
    subst e0
    have hz1 := s6_makeZero (d := d + 2) (L := L) (u := u) (I := (stc (stc I 158 y) c (ajm (cl I e) j))) (op_157 hF)
    rw [stc_cm hc8, stc_stc] at hz1
    have hl := lp1_adji (d := d + 1) (L := L) (u := u) hF hB ha hb hN hce hc8 he8 he (f := ajm (cl I e) j) (j := j) (by omega)
    obtain ⟨Z2, hZ⟩ : ∃ Z, Z = stc (stc I 158 (spj (cl I e) j (13 - j))) c (ajm (cl I e) j) := ⟨_, rfl⟩
    rw [← hZ] at hl
    obtain ⟨N, hex, hcall⟩ := st1_adj (d := d + 2) (L := L) (u := u) (I := Z2) hF (by rw [hZ]; exact Tbc_s (Tbc_s hB (by unfold Nt; omega)) hN) ha hN hc8 (s := cl I e) (cl_a he) (j := j) (by omega) (fun k hk => by rw [hZ, stc_o (Ne.symm hc8), stc_s hk]) (fun k hk => by rw [hZ, stc_s hk])
    by_cases cj : j % 2 = 0
    · rw [show sgj j = 1 from if_pos cj] at hcall
      refine inv_e1 (ls := fun l4 => [vR 110, vR a, vR b, vI ((j + 1 : Nat) : Int), l4]) (h := LH L (stc Z2 c (ajm (cl I e) (j + 1))) R u) ?_ (fun _ => ⟨_, _, by rw [hZ, stc_stc]⟩)
      clear hZ
      apply Exists.intro
      unfold wX1_adjoin_6
      apply t_Q
      · apply t_B
        · refine x_iload_n rfl ?_
          refine x_bipush ?_
          exact rfl
        exact t_ic_gt_f (by omega)
      apply t_Q
      · apply t_S
        refine x_aload_n rfl ?_
        refine x_gr tg_110 rfl (fx_110_2 hF) ?_
        refine x_V1v tg_157 (Nat.le_of_ble_eq_true rfl) (hz1) ?_
        refine x_iconst ?_
        refine x_istore rfl ?_
        exact rfl
      apply t_Q
      · apply t_K
        apply t_W
        exact hl
      apply t_Q
      · apply t_S
        refine x_iload_n rfl ?_
        refine x_iconst ?_
        refine x_irem0 (by omega) ?_
        exact rfl
      apply t_Q
      · apply t_K
        apply t_Qs
        apply t_Ks
        · apply t_Q
          · apply t_B
            · exact rfl
            exact t_if_ne_f (by omega)
          apply t_B
          · refine x_iconst ?_
            exact rfl
          exact t_goto
        · decide
      apply t_B
      · refine x_istore rfl ?_
        refine x_aload_n rfl ?_
        refine x_aload_n rfl ?_
        refine x_iload rfl ?_
        refine x_iconst ?_
        refine x_iload_n rfl ?_
        refine x_S2i (by decide) (Nat.le_of_ble_eq_true rfl) (s6_placeOf (d := d + 2) (i := 0) (j := j) (by omega)) ?_
        refine x_aload_n rfl ?_
        refine x_gr tg_110 rfl (fx_110_2 hF) ?_
        refine x_aload_n rfl ?_
        refine x_gr tg_110 rfl (fx_110_2 hF) ?_
        refine x_V1i tg_157 (Nat.le_of_ble_eq_true rfl) (hex) ?_
        refine x_V6v tg_110 (Nat.le_of_ble_eq_true rfl) (hcall) ?_
        refine x_iinc rfl rfl ?_
        exact rfl
      exact t_goeq rfl
    · rw [show sgj j = 10006 from if_neg cj] at hcall
      refine inv_e1 (ls := fun l4 => [vR 110, vR a, vR b, vI ((j + 1 : Nat) : Int), l4]) (h := LH L (stc Z2 c (ajm (cl I e) (j + 1))) R u) ?_ (fun _ => ⟨_, _, by rw [hZ, stc_stc]⟩)
      clear hZ
      apply Exists.intro
      unfold wX1_adjoin_6
      apply t_Q
      · apply t_B
        · refine x_iload_n rfl ?_
          refine x_bipush ?_
          exact rfl
        exact t_ic_gt_f (by omega)
      apply t_Q
      · apply t_S
        refine x_aload_n rfl ?_
        refine x_gr tg_110 rfl (fx_110_2 hF) ?_
        refine x_V1v tg_157 (Nat.le_of_ble_eq_true rfl) (hz1) ?_
        refine x_iconst ?_
        refine x_istore rfl ?_
        exact rfl
      apply t_Q
      · apply t_K
        apply t_W
        exact hl
      apply t_Q
      · apply t_S
        refine x_iload_n rfl ?_
        refine x_iconst ?_
        refine x_irem0 (by omega) ?_
        exact rfl
      apply t_Q
      · apply t_Ks
        · apply t_Q
          · apply t_K
            apply t_Qs
            apply t_B
            · exact rfl
            exact t_if_ne_t (by omega)
          apply t_S
          refine x_sipush ?_
          exact rfl
        · decide
      apply t_B
      · refine x_istore rfl ?_
        refine x_aload_n rfl ?_
        refine x_aload_n rfl ?_
        refine x_iload rfl ?_
        refine x_iconst ?_
        refine x_iload_n rfl ?_
        refine x_S2i (by decide) (Nat.le_of_ble_eq_true rfl) (s6_placeOf (d := d + 2) (i := 0) (j := j) (by omega)) ?_
        refine x_aload_n rfl ?_
        refine x_gr tg_110 rfl (fx_110_2 hF) ?_
        refine x_aload_n rfl ?_
        refine x_gr tg_110 rfl (fx_110_2 hF) ?_
        refine x_V1i tg_157 (Nat.le_of_ble_eq_true rfl) (hex) ?_
        refine x_V6v tg_110 (Nat.le_of_ble_eq_true rfl) (hcall) ?_
        refine x_iinc rfl rfl ?_
        exact rfl
      exact t_goeq rfl
  · obtain ⟨l4, y, e0⟩ := hp
    subst e0
    refine ⟨(100, [vR 110, vR a, vR b, vI 13, l4], [], LH L (stc (stc I 158 y) c (ajm (cl I e) 13)) R u), ?_, by show ¬ 100 = 6 + 2; decide, ⟨l4, y, rfl⟩⟩
    unfold wX1_adjoin_6
    apply t_Qs
    apply t_B
    · refine x_iload_n rfl ?_
      refine x_bipush ?_
      exact rfl
    exact t_ic_gt_t (by omega)
set_option maxRecDepth 10000 in
theorem s1_adjoin {d L : Nat} {I : Nat → Nat → Int} {R : Nat → Nat → Option Nat} {u : Int64} {a c b e : Nat} (hF : FixR R) (hB : Tbc I) (ha : Opx R a c) (hb : Opx R b e) (hN : Nt c) (hce : e ≠ c) (hc8 : c ≠ 158) (he8 : e ≠ 158) (he : Rsc I e) : ∃ y, am_run am_tb (d + 5) 17 [vR 110, vR a, vR b] (LH L I R u) = some ([], LH L (stc (stc I 158 y) c (ajm (cl I e) 13)) R u) := by
  obtain ⟨r, hl, l4, y, er⟩ := lp1_adjo (d := d) (L := L) (u := u) hF hB ha hb hN hce hc8 he8 he
  subst er
  refine ⟨y, ?_⟩
  refine run_of tb_X1_adjoin (Nat.le_of_ble_eq_true rfl) ?_
  show ∃ ls', am_ev (am_run am_tb (d + 4)) tX1_adjoin ([vR 110, vR a, vR b, vU, vU], [], LH L I R u) = some (1, ls', [], LH L (stc (stc I 158 y) c (ajm (cl I e) 13)) R u)
  have hz := s6_makeZero (d := d + 2) (L := L) (u := u) (I := I) ha
  apply Exists.intro
  unfold tX1_adjoin
  apply t_Q
  · apply t_S
    refine x_aload_n rfl ?_
    refine x_V1v ha.1 (Nat.le_of_ble_eq_true rfl) (hz) ?_
    refine x_iconst ?_
    refine x_istore_n rfl ?_
    exact rfl
  apply t_Q
  · apply t_K
    apply t_W
    exact hl
  apply t_B
  · exact rfl
  exact rfl
