/-! The class: bases. Written by wip/whole/gen_9l.py. -/
/-- a basis at an address -/
def Bax (R : Nat → Nat → Option Nat) (a : Nat) : Prop := (171 ≤ a ∧ a + 12 ≤ 222) ∧ tg a = 2 ∧ (tg (a + 1) = 23 ∧ ∀ L, ln L (a + 1) = 4) ∧ Arx (a + 2) 4 ∧ Arx (a + 3) 4 ∧ Arx (a + 4) 60 ∧ R a 0 = some (a + 1) ∧ R a 1 = some (a + 2) ∧ R a 2 = some (a + 3) ∧ R a 3 = some (a + 4) ∧ ∀ i, i < 4 → R (a + 1) i = some (a + 5 + 2 * i) ∧ Opx R (a + 5 + 2 * i) (a + 6 + 2 * i)
theorem ba_all : ∀ k, k < 4 → tg (171 + 13 * k) = 2 ∧ tg (172 + 13 * k) = 23 ∧ ly_n.getD (172 + 13 * k) 0 = 4 ∧ (tg (173 + 13 * k) = 20 ∧ ly_n.getD (173 + 13 * k) 0 = 4) ∧ (tg (174 + 13 * k) = 20 ∧ ly_n.getD (174 + 13 * k) 0 = 4) ∧ (tg (175 + 13 * k) = 20 ∧ ly_n.getD (175 + 13 * k) 0 = 60) ∧ cstf (171 + 13 * k) 0 = some (172 + 13 * k) ∧ cstf (171 + 13 * k) 1 = some (173 + 13 * k) ∧ cstf (171 + 13 * k) 2 = some (174 + 13 * k) ∧ cstf (171 + 13 * k) 3 = some (175 + 13 * k) ∧ cstf 166 k = some (171 + 13 * k) := by decide +kernel
theorem ba_ops : ∀ k, k < 4 → ∀ i, i < 4 → cstf (172 + 13 * k) i = some (176 + 13 * k + 2 * i) ∧ tg (176 + 13 * k + 2 * i) = 6 ∧ cstf (176 + 13 * k + 2 * i) 0 = some (177 + 13 * k + 2 * i) ∧ tg (177 + 13 * k + 2 * i) = 20 ∧ ly_n.getD (177 + 13 * k + 2 * i) 0 = 91 := by decide +kernel
theorem fx_ba {R : Nat → Nat → Option Nat} (hF : FixR R) {k : Nat} (hk : k < 4) : R 166 k = some (171 + 13 * k) := hF.get (ba_all k hk).2.2.2.2.2.2.2.2.2.2
theorem Bax_of {R : Nat → Nat → Option Nat} (hF : FixR R) {k : Nat} (hk : k < 4) : Bax R (171 + 13 * k) := by
  obtain ⟨a1, a2, a3, a4, a5, a6, a7, a8, a9, a10, a11⟩ := ba_all k hk
  refine ⟨by omega, a1, ⟨by rw [show 171 + 13 * k + 1 = 172 + 13 * k by omega]; exact a2, fun L => by rw [show 171 + 13 * k + 1 = 172 + 13 * k by omega]; exact ln_of L ⟨by omega, a3⟩⟩, ?_, ?_, ?_, ?_, ?_, ?_, ?_, fun i hi => ?_⟩
  · rw [show 171 + 13 * k + 2 = 173 + 13 * k by omega]; exact ⟨a4.1, fun L => ln_of L ⟨by omega, a4.2⟩, by decide⟩
  · rw [show 171 + 13 * k + 3 = 174 + 13 * k by omega]; exact ⟨a5.1, fun L => ln_of L ⟨by omega, a5.2⟩, by decide⟩
  · rw [show 171 + 13 * k + 4 = 175 + 13 * k by omega]; exact ⟨a6.1, fun L => ln_of L ⟨by omega, a6.2⟩, by decide⟩
  · rw [hF.get a7]; exact congrArg some (by omega)
  · rw [hF.get a8]; exact congrArg some (by omega)
  · rw [hF.get a9]; exact congrArg some (by omega)
  · rw [hF.get a10]; exact congrArg some (by omega)
  · obtain ⟨b1, b2, b3, b4, b5⟩ := ba_ops k hk i hi
    rw [show 171 + 13 * k + 1 = 172 + 13 * k by omega, show 171 + 13 * k + 5 + 2 * i = 176 + 13 * k + 2 * i by omega, show 171 + 13 * k + 6 + 2 * i = 177 + 13 * k + 2 * i by omega]
    exact ⟨hF.get b1, b2, hF.get b3, b4, fun L => ln_of L ⟨by omega, b5⟩⟩
/-- a cell of the set's operators -/
def srcc (I : Nat → Nat → Int) (q : Int) (k j : Nat) : Int := if shf q k % 2 = 1 then I (10 + 2 * k) j else 0
set_option maxRecDepth 10000 in
theorem s2_cell {d L : Nat} {I : Nat → Nat → Int} {R : Nat → Nat → Option Nat} {u : Int64} (hF : FixR R) (hS : Sn I) {q : Int} (hq : 0 < q ∧ q < 64) {k j : Nat} (hk : k < 6) (hj : j < 10) : am_run am_tb (d + 2) 23 [vR 4, vI q, vI k, vI j] (LH L I R u) = some ([vI (srcc I q k j)], LH L I R u) := by
  refine run_of tb_X2_sourceCell (Nat.le_of_ble_eq_true rfl) ?_
  show ∃ ls', am_ev (am_run am_tb (d + 1)) tX2_sourceCell ([vR 4, vI q, vI k, vI j], [], (LH L I R u)) = some (1, ls', [vI (srcc I q k j)], LH L I R u)
  have hr := Sn_op hS hk j (by omega)
  by_cases c : shf q k % 2 = 1
  · rw [show srcc I q k j = I (10 + 2 * k) j from if_pos c]
    apply Exists.intro
    unfold tX2_sourceCell
    apply t_Q
    · apply t_S
      refine x_iload_n rfl ?_
      refine x_iload_n rfl ?_
      refine x_S2i (by decide) (Nat.le_of_ble_eq_true rfl) (ret_t c (s11_isInSet (d := d) (q := q) (by omega) (k := k) (by omega))) ?_
      exact rfl
    apply t_Q
    · apply t_K
      apply t_Qs
      apply t_Ks
      · apply t_Q
        · apply t_B
          · exact rfl
          exact t_if_eq_f (by omega)
        apply t_B
        · refine x_aload_n rfl ?_
          refine x_gr tg_4 rfl (fx_4_0 hF) ?_
          refine x_iload_n rfl ?_
          refine x_aald (by rw [tg_5]; decide) (ln_5 L) (by omega) (fx_op hF hk : R 5 k = some (9 + 2 * k)) ?_
          refine x_gr (op_st hF hk).1 rfl (op_st hF hk).2.1 ?_
          refine x_iload_n rfl ?_
          refine x_ialdv (Or.inl (op_st hF hk).2.2.1) ((op_st hF hk).2.2.2 L) (by omega) (show _ = I (10 + 2 * k) j from congrArg (I (10 + 2 * k)) (Int.toNat_natCast j)) ?_
          exact rfl
        exact t_goto
      · decide
    apply t_B
    · exact rfl
    exact t_ireq (Or.inl rfl) rfl rfl
  · rw [show srcc I q k j = 0 from if_neg c]
    apply Exists.intro
    unfold tX2_sourceCell
    apply t_Q
    · apply t_S
      refine x_iload_n rfl ?_
      refine x_iload_n rfl ?_
      refine x_S2i (by decide) (Nat.le_of_ble_eq_true rfl) (ret_f c (s11_isInSet (d := d) (q := q) (by omega) (k := k) (by omega))) ?_
      exact rfl
    apply t_Q
    · apply t_Ks
      · apply t_Q
        · apply t_K
          apply t_Qs
          apply t_B
          · exact rfl
          exact t_if_eq_t (by omega)
        apply t_S
        refine x_iconst ?_
        exact rfl
      · decide
    apply t_B
    · exact rfl
    exact t_ireq (Or.inl rfl) rfl rfl
theorem srcc_b {I : Nat → Nat → Int} (hS : Sn I) {q : Int} {k j : Nat} (hk : k < 6) (hj : j < 10) : 0 ≤ srcc I q k j ∧ srcc I q k j < 10007 := by
  unfold srcc
  split
  · exact Sn_op hS hk j (by omega)
  · omega
/-- whether the basis at a was made of these -/
def IsF (I : Nat → Nat → Int) (a : Nat) (q : Int) : Prop := I a 4 = I 4 2 ∧ ∀ k, k < 6 → ∀ j, j < 10 → I (a + 4) (10 * k + j) = srcc I q k j
/-- the first of the numbers are those -/
def Eqj (I : Nat → Nat → Int) (a : Nat) (q : Int) (k n : Nat) : Prop := ∀ j, j < n → I (a + 4) (10 * k + j) = srcc I q k j
/-- one of the numbers is another -/
def Nej (I : Nat → Nat → Int) (a : Nat) (q : Int) : Prop := ∃ k j, k < 6 ∧ j < 10 ∧ I (a + 4) (10 * k + j) ≠ srcc I q k j
set_option maxRecDepth 10000 in
theorem lp2_for1 {d L : Nat} {I : Nat → Nat → Int} {R : Nat → Nat → Option Nat} {u : Int64} {a : Nat} (hF : FixR R) (ha : Bax R a) (hS : Sn I) {q : Int} (hq : 0 < q ∧ q < 64) (hsr : ∀ x, x < 60 → inR (I (a + 4) x)) {k : Nat} (hk : k < 6) : ∃ r, am_lp (am_ev (am_run am_tb (d + 2)) wX2_isFor_24) 24 am_F ([vR a, vR 4, vI q, vI (k : Nat), vI (0 : Nat)], [], LH L I R u) = some r ∧ ((r = (64, [vR a, vR 4, vI q, vI (k : Nat), vI (10 : Nat)], [], LH L I R u) ∧ Eqj I a q k 10) ∨ ((∃ ls, r = (1, ls, [vI 0], LH L I R u)) ∧ Nej I a q)) := by
  refine lp_meas (fun N y => ∃ j : Nat, N = 10 - j ∧ j ≤ 10 ∧ y = ([vR a, vR 4, vI q, vI (k : Nat), vI (j : Nat)], [], LH L I R u) ∧ Eqj I a q k j) _ (fun N y hy => ?_) am_F 10 _ (ltF (by omega)) ⟨0, rfl, by omega, rfl, fun j hj => absurd hj (Nat.not_lt_zero _)⟩
  obtain ⟨j, eN, hj, ey, hE⟩ := hy
  subst ey
  by_cases c10 : j = 10
  · subst c10
    refine ⟨(64, [vR a, vR 4, vI q, vI (k : Nat), vI (10 : Nat)], [], LH L I R u), ?_, Or.inr ⟨by show ¬ 64 = 24 + 2; decide, Or.inl ⟨rfl, hE⟩⟩⟩
    unfold wX2_isFor_24
    apply t_Qs
    apply t_B
    · refine x_iload rfl ?_
      refine x_bipush ?_
      exact rfl
    exact t_ic_ge_t (by omega)
  · have h1 := hsr (10 * k + j) (by omega)
    have h2 := srcc_b hS (q := q) hk (j := j) (by omega)
    by_cases c : I (a + 4) (10 * k + j) = srcc I q k j
    · refine ⟨(24 + 2, [vR a, vR 4, vI q, vI (k : Nat), vI (j + 1 : Nat)], [], LH L I R u), ?_, Or.inl ⟨rfl, 10 - (j + 1), by omega, j + 1, rfl, by omega, rfl, fun m hm => ?_⟩⟩
      · unfold wX2_isFor_24
        apply t_Q
        · apply t_B
          · refine x_iload rfl ?_
            refine x_bipush ?_
            exact rfl
          exact t_ic_ge_f (by omega)
        apply t_Q
        · apply t_S
          refine x_aload_n rfl ?_
          refine x_gr ha.2.1 rfl ha.2.2.2.2.2.2.2.2.2.1 ?_
          refine x_iload_n rfl ?_
          refine x_bipush ?_
          refine x_imul ?_
          refine x_iload rfl ?_
          refine x_iadd ?_
          rw [show (k : Int) * 10 + (j : Int) = ((10 * k + j : Nat) : Int) by omega]
          refine x_ialdv (Or.inl ha.2.2.2.2.2.1.1) (ha.2.2.2.2.2.1.2.1 L) (by omega) (show _ = I (a + 4) (10 * k + j) from congrArg (I (a + 4)) (Int.toNat_natCast _)) ?_
          refine x_aload_n rfl ?_
          refine x_iload_n rfl ?_
          refine x_iload_n rfl ?_
          refine x_iload rfl ?_
          refine x_S4i (by decide) (Nat.le_of_ble_eq_true rfl) (s2_cell (d := d) hF hS hq hk (by omega)) ?_
          exact rfl
        apply t_Q
        · apply t_K
          apply t_Qs
          apply t_B
          · exact rfl
          exact t_ic_eq_t (by omega)
        apply t_B
        · refine x_iinc rfl rfl ?_
          exact rfl
        exact t_goeq rfl
      · by_cases e : m = j
        · rw [e]; exact c
        · exact hE m (by omega)
    · have key : ∃ ls, am_ev (am_run am_tb (d + 2)) wX2_isFor_24 ([vR a, vR 4, vI q, vI (k : Nat), vI (j : Nat)], [], LH L I R u) = some (1, ls, [vI 0], LH L I R u) := by
        apply Exists.intro
        unfold wX2_isFor_24
        apply t_Q
        · apply t_B
          · refine x_iload rfl ?_
            refine x_bipush ?_
            exact rfl
          exact t_ic_ge_f (by omega)
        apply t_Q
        · apply t_S
          refine x_aload_n rfl ?_
          refine x_gr ha.2.1 rfl ha.2.2.2.2.2.2.2.2.2.1 ?_
          refine x_iload_n rfl ?_
          refine x_bipush ?_
          refine x_imul ?_
          refine x_iload rfl ?_
          refine x_iadd ?_
          rw [show (k : Int) * 10 + (j : Int) = ((10 * k + j : Nat) : Int) by omega]
          refine x_ialdv (Or.inl ha.2.2.2.2.2.1.1) (ha.2.2.2.2.2.1.2.1 L) (by omega) (show _ = I (a + 4) (10 * k + j) from congrArg (I (a + 4)) (Int.toNat_natCast _)) ?_
          refine x_aload_n rfl ?_
          refine x_iload_n rfl ?_
          refine x_iload_n rfl ?_
          refine x_iload rfl ?_
          refine x_S4i (by decide) (Nat.le_of_ble_eq_true rfl) (s2_cell (d := d) hF hS hq hk (by omega)) ?_
          exact rfl
        apply t_Qs
        apply t_Ks
        · apply t_Q
          · apply t_B
            · exact rfl
            exact t_ic_eq_f (by omega)
          apply t_B
          · refine x_iconst ?_
            exact rfl
          exact t_ireq (Or.inr (by first | exact Or.inl rfl | exact Or.inr rfl)) rfl rfl
        · decide
      obtain ⟨ls, key⟩ := key
      exact ⟨_, key, Or.inr ⟨by show ¬ 1 = 24 + 2; decide, Or.inr ⟨⟨ls, rfl⟩, k, j, hk, by omega, c⟩⟩⟩
set_option maxRecDepth 10000 in
theorem lp2_for2 {d L : Nat} {I : Nat → Nat → Int} {R : Nat → Nat → Option Nat} {u : Int64} {a : Nat} (hF : FixR R) (ha : Bax R a) (hS : Sn I) {q : Int} (hq : 0 < q ∧ q < 64) (hsr : ∀ x, x < 60 → inR (I (a + 4) x)) : ∃ r, am_lp (am_ev (am_run am_tb (d + 2)) wX2_isFor_15) 15 am_F ([vR a, vR 4, vI q, vI 0, vU], [], LH L I R u) = some r ∧ (((∃ ls, r = (70, ls, [], LH L I R u)) ∧ ∀ k, k < 6 → Eqj I a q k 10) ∨ ((∃ ls, r = (1, ls, [vI 0], LH L I R u)) ∧ Nej I a q)) := by
  refine lp_meas (fun N y => ∃ (k : Nat) (l4 : am_V), N = 6 - k ∧ k ≤ 6 ∧ y = ([vR a, vR 4, vI q, vI (k : Nat), l4], [], LH L I R u) ∧ ∀ m, m < k → Eqj I a q m 10) _ (fun N y hy => ?_) am_F 6 _ (ltF (by omega)) ⟨0, vU, rfl, by omega, rfl, fun m hm => absurd hm (Nat.not_lt_zero _)⟩
  obtain ⟨k, l4, eN, hk, ey, hE⟩ := hy
  subst ey
  by_cases c6 : k = 6
  · subst c6
    refine ⟨(70, [vR a, vR 4, vI q, vI (6 : Nat), l4], [], LH L I R u), ?_, Or.inr ⟨by show ¬ 70 = 15 + 2; decide, Or.inl ⟨⟨_, rfl⟩, hE⟩⟩⟩
    unfold wX2_isFor_15
    apply t_Qs
    apply t_B
    · refine x_iload_n rfl ?_
      refine x_bipush ?_
      exact rfl
    exact t_ic_ge_t (by omega)
  · obtain ⟨r, hl, h⟩ := lp2_for1 (d := d) (L := L) (u := u) hF ha hS hq hsr (k := k) (by omega)
    have e7 : k < 6 := by omega
    rcases h with ⟨er, hE2⟩ | ⟨⟨ls, er⟩, hN⟩
    · subst er
      refine ⟨(15 + 2, [vR a, vR 4, vI q, vI (k + 1 : Nat), vI (10 : Nat)], [], LH L I R u), ?_, Or.inl ⟨rfl, 6 - (k + 1), by omega, k + 1, _, rfl, by omega, rfl, fun m hm => ?_⟩⟩
      · unfold wX2_isFor_15
        apply t_Q
        · apply t_B
          · refine x_iload_n rfl ?_
            refine x_bipush ?_
            exact rfl
          exact t_ic_ge_f (by omega)
        apply t_Q
        · apply t_S
          refine x_iconst ?_
          refine x_istore rfl ?_
          exact rfl
        apply t_Q
        · apply t_K
          apply t_W
          exact hl
        apply t_B
        · refine x_iinc rfl rfl ?_
          exact rfl
        exact t_goeq rfl
      · by_cases e : m = k
        · rw [e]; exact hE2
        · exact hE m (by omega)
    · subst er
      have key : ∃ ls, am_ev (am_run am_tb (d + 2)) wX2_isFor_15 ([vR a, vR 4, vI q, vI (k : Nat), l4], [], LH L I R u) = some (1, ls, [vI 0], LH L I R u) := by
        apply Exists.intro
        unfold wX2_isFor_15
        apply t_Q
        · apply t_B
          · refine x_iload_n rfl ?_
            refine x_bipush ?_
            exact rfl
          exact t_ic_ge_f (by omega)
        apply t_Q
        · apply t_S
          refine x_iconst ?_
          refine x_istore rfl ?_
          exact rfl
        apply t_Qs
        apply t_Ks
        · apply t_W
          exact hl
        · decide
      obtain ⟨ls2, key⟩ := key
      exact ⟨_, key, Or.inr ⟨by show ¬ 1 = 15 + 2; decide, Or.inr ⟨⟨ls2, rfl⟩, hN⟩⟩⟩
set_option maxRecDepth 10000 in
theorem s2_isFor {d L : Nat} {I : Nat → Nat → Int} {R : Nat → Nat → Option Nat} {u : Int64} {a : Nat} (hF : FixR R) (ha : Bax R a) (hS : Sn I) {q : Int} (hq : 0 < q ∧ q < 64) (hsr : ∀ x, x < 60 → inR (I (a + 4) x)) (hso : inR (I a 4)) : ∃ b : Int, am_run am_tb (d + 3) 20 [vR a, vR 4, vI q] (LH L I R u) = some ([vI b], LH L I R u) ∧ ((b = 1 ∧ IsF I a q) ∨ (b = 0 ∧ ¬ IsF I a q)) := by
  have h02 := hS.2
  by_cases c : I a 4 = I 4 2
  · obtain ⟨r, hl, h⟩ := lp2_for2 (d := d) (L := L) (u := u) hF ha hS hq hsr
    rcases h with ⟨⟨ls, er⟩, hE⟩ | ⟨⟨ls, er⟩, k, j, hk, hj, hN⟩
    · subst er
      refine ⟨1, ?_, Or.inl ⟨rfl, c, fun k hk j hj => hE k hk j hj⟩⟩
      refine run_of tb_X2_isFor (Nat.le_of_ble_eq_true rfl) ?_
      show ∃ ls', am_ev (am_run am_tb (d + 2)) tX2_isFor ([vR a, vR 4, vI q, vU, vU], [], LH L I R u) = _
      apply Exists.intro
      unfold tX2_isFor
      apply t_Q
      · apply t_S
        refine x_aload_n rfl ?_
        refine x_gi ha.2.1 rfl ?_
        refine x_aload_n rfl ?_
        refine x_gi tg_4 rfl ?_
        exact rfl
      apply t_Q
      · apply t_K
        apply t_Qs
        apply t_B
        · exact rfl
        exact t_ic_eq_t (by omega)
      apply t_Q
      · apply t_S
        refine x_iconst ?_
        refine x_istore_n rfl ?_
        exact rfl
      apply t_Q
      · apply t_K
        apply t_W
        exact hl
      apply t_B
      · refine x_iconst ?_
        exact rfl
      exact t_ireq (Or.inr (by first | exact Or.inl rfl | exact Or.inr rfl)) rfl rfl
    · subst er
      refine ⟨0, ?_, Or.inr ⟨rfl, fun h => hN (h.2 k hk j hj)⟩⟩
      refine run_of tb_X2_isFor (Nat.le_of_ble_eq_true rfl) ?_
      show ∃ ls', am_ev (am_run am_tb (d + 2)) tX2_isFor ([vR a, vR 4, vI q, vU, vU], [], LH L I R u) = _
      apply Exists.intro
      unfold tX2_isFor
      apply t_Q
      · apply t_S
        refine x_aload_n rfl ?_
        refine x_gi ha.2.1 rfl ?_
        refine x_aload_n rfl ?_
        refine x_gi tg_4 rfl ?_
        exact rfl
      apply t_Q
      · apply t_K
        apply t_Qs
        apply t_B
        · exact rfl
        exact t_ic_eq_t (by omega)
      apply t_Q
      · apply t_S
        refine x_iconst ?_
        refine x_istore_n rfl ?_
        exact rfl
      apply t_Qs
      apply t_Ks
      · apply t_W
        exact hl
      · decide
  · refine ⟨0, ?_, Or.inr ⟨rfl, fun h => c h.1⟩⟩
    refine run_of tb_X2_isFor (Nat.le_of_ble_eq_true rfl) ?_
    show ∃ ls', am_ev (am_run am_tb (d + 2)) tX2_isFor ([vR a, vR 4, vI q, vU, vU], [], LH L I R u) = _
    apply Exists.intro
    unfold tX2_isFor
    apply t_Q
    · apply t_S
      refine x_aload_n rfl ?_
      refine x_gi ha.2.1 rfl ?_
      refine x_aload_n rfl ?_
      refine x_gi tg_4 rfl ?_
      exact rfl
    apply t_Qs
    apply t_Ks
    · apply t_Q
      · apply t_B
        · exact rfl
        exact t_ic_eq_f (by omega)
      apply t_B
      · refine x_iconst ?_
        exact rfl
      exact t_ireq (Or.inr (by first | exact Or.inl rfl | exact Or.inr rfl)) rfl rfl
    · decide
theorem srcc_o {I J : Nat → Nat → Int} {q : Int} {k j : Nat} (h : J (10 + 2 * k) = I (10 + 2 * k)) : srcc J q k j = srcc I q k j := by
  unfold srcc
  rw [h]
theorem Sn_b {I J : Nat → Nat → Int} (hS : Sn I) (h : ∀ x, x < 108 → J x = I x) : Sn J := ⟨fun j hj => by rw [snow_o (fun a h1 h2 => h a (by omega)) (by omega)]; exact hS.1 j hj, by rw [h 4 (by decide)]; exact hS.2⟩
theorem stv_k {I : Nat → Nat → Int} {T n : Nat} {f : Nat → Int} {v i : Int} (hi : i = (n : Nat)) (hv : v = f n) : au (stv I T n f) T (au (stv I T n f T) i.toNat v) = stv I T (n + 1) f := by
  subst hi
  unfold stv
  rw [au_au, au_s]
  refine au_c ?_
  funext j
  rw [au_i, Int.toNat_natCast]
  by_cases e : j = n
  · rw [if_pos e, if_pos (by omega), hv, e]
  · rw [if_neg e]
    by_cases e2 : j < n
    · rw [if_pos e2, if_pos (by omega)]
    · rw [if_neg e2, if_neg (by omega)]
set_option maxRecDepth 10000 in
theorem lp2_beg1 {d L : Nat} {I : Nat → Nat → Int} {R : Nat → Nat → Option Nat} {u : Int64} {a : Nat} (hF : FixR R) (ha : Bax R a) (hS : Sn I) {q : Int} (hq : 0 < q ∧ q < 64) {I0 : Nat → Nat → Int} (hI : ∀ x, x < 108 → I x = I0 x) {k : Nat} (hk : k < 6) : am_lp (am_ev (am_run am_tb (d + 2)) wX2_begin_24) 24 am_F ([vR a, vR 4, vI q, vI (k : Nat), vI (0 : Nat)], [], LH L (stv I (a + 4) (10 * k + 0) (fun x => srcc I0 q (x / 10) (x % 10))) R u) = some (59, [vR a, vR 4, vI q, vI (k : Nat), vI (10 : Nat)], [], LH L (stv I (a + 4) (10 * k + 10) (fun x => srcc I0 q (x / 10) (x % 10))) R u) := by
  have ha1 := ha.1
  refine lp_up0 (fun j => ([vR a, vR 4, vI q, vI (k : Nat), vI (j : Nat)], [], LH L (stv I (a + 4) (10 * k + j) (fun x => srcc I0 q (x / 10) (x % 10))) R u)) 10 rfl (ltF (by omega)) (by show ¬ 59 = 24 + 2; decide) (fun j hj => ?_) ?_
  · have hSJ : Sn (stv I (a + 4) (10 * k + j) (fun x => srcc I0 q (x / 10) (x % 10))) := Sn_b hS (fun x hx => stv_o (by omega))
    have hcell := s2_cell (d := d) (L := L) (u := u) hF hSJ hq hk (j := j) hj
    rw [srcc_o (I := I0) (J := (stv I (a + 4) (10 * k + j) (fun x => srcc I0 q (x / 10) (x % 10)))) (by rw [stv_o (by omega)]; exact hI _ (by omega))] at hcell
    unfold wX2_begin_24
    apply t_Q
    · apply t_B
      · refine x_iload rfl ?_
        refine x_bipush ?_
        exact rfl
      exact t_ic_ge_f (by omega)
    apply t_B
    · refine x_aload_n rfl ?_
      refine x_gr ha.2.1 rfl ha.2.2.2.2.2.2.2.2.2.1 ?_
      refine x_iload_n rfl ?_
      refine x_bipush ?_
      refine x_imul ?_
      refine x_iload rfl ?_
      refine x_iadd ?_
      rw [show (k : Int) * 10 + (j : Int) = ((10 * k + j : Nat) : Int) by omega]
      refine x_aload_n rfl ?_
      refine x_iload_n rfl ?_
      refine x_iload_n rfl ?_
      refine x_iload rfl ?_
      refine x_S4i (by decide) (Nat.le_of_ble_eq_true rfl) (hcell) ?_
      refine x_iast ha.2.2.2.2.2.1.1 (ha.2.2.2.2.2.1.2.1 L) (by omega) ?_
      refine x_iinc rfl rfl ?_
      exact rfl
    exact t_goeq (s3 rfl (stv_k rfl (by rw [show (10 * k + j) / 10 = k by omega, show (10 * k + j) % 10 = j by omega])))
  · unfold wX2_begin_24
    apply t_Qs
    apply t_B
    · refine x_iload rfl ?_
      refine x_bipush ?_
      exact rfl
    exact t_ic_ge_t (by omega)
set_option maxRecDepth 10000 in
theorem s2_begin {d L : Nat} {I : Nat → Nat → Int} {R : Nat → Nat → Option Nat} {u : Int64} {a : Nat} (hF : FixR R) (ha : Bax R a) (hS : Sn I) {q : Int} (hq : 0 < q ∧ q < 64) : ∃ J, am_run am_tb (d + 3) 21 [vR a, vR 4, vI q] (LH L I R u) = some ([], LH L J R u) ∧ J a 4 = I 4 2 ∧ J a 5 = 0 ∧ (∀ k, k < 6 → ∀ j, j < 10 → J (a + 4) (10 * k + j) = srcc I q k j) ∧ ∀ x, x ≠ a → x ≠ a + 4 → J x = I x := by
  have ha1 := ha.1
  obtain ⟨I1, hI1⟩ : ∃ I1, I1 = au (au I a (au (I a) 4 (I 4 2))) a (au (au I a (au (I a) 4 (I 4 2)) a) 5 0) := ⟨_, rfl⟩
  have f1 : ∀ x, x ≠ a → I1 x = I x := fun x hx => by rw [hI1, au_n _ _ hx, au_n _ _ hx]
  have hS1 : Sn I1 := Sn_b hS (fun x hx => f1 x (by omega))
  have hl : ∃ r, am_lp (am_ev (am_run am_tb (d + 2)) wX2_begin_15) 15 am_F ([vR a, vR 4, vI q, vI 0, vU], [], LH L I1 R u) = some r ∧ ∃ ls, r = (65, ls, [], LH L (stv I1 (a + 4) 60 (fun x => srcc I q (x / 10) (x % 10))) R u) := by
    refine lp_inv (fun k y => ∃ l4, y = ([vR a, vR 4, vI q, vI (k : Nat), l4], [], LH L (stv I1 (a + 4) (10 * k + 0) (fun x => srcc I q (x / 10) (x % 10))) R u)) _ 6 ⟨vU, s3 rfl (stv_id (fun j hj => absurd hj (Nat.not_lt_zero _))).symm⟩ (ltF (by omega)) (fun k y hk hy => ?_) (fun y hy => ?_)
    · obtain ⟨l4, e0⟩ := hy
      subst e0
      have hl1 := lp2_beg1 (d := d) (L := L) (u := u) (I := I1) hF ha hS1 hq (I0 := I) (fun x hx => f1 x (by omega)) hk
      refine ⟨([vR a, vR 4, vI q, vI (k + 1 : Nat), vI (10 : Nat)], [], LH L (stv I1 (a + 4) (10 * (k + 1) + 0) (fun x => srcc I q (x / 10) (x % 10))) R u), ?_, ⟨_, rfl⟩⟩
      rw [show 10 * (k + 1) + 0 = 10 * k + 10 by omega]
      unfold wX2_begin_15
      apply t_Q
      · apply t_B
        · refine x_iload_n rfl ?_
          refine x_bipush ?_
          exact rfl
        exact t_ic_ge_f (by omega)
      apply t_Q
      · apply t_S
        refine x_iconst ?_
        refine x_istore rfl ?_
        exact rfl
      apply t_Q
      · apply t_K
        apply t_W
        exact hl1
      apply t_B
      · refine x_iinc rfl rfl ?_
        exact rfl
      exact t_goeq rfl
    · obtain ⟨l4, e0⟩ := hy
      subst e0
      refine ⟨(65, [vR a, vR 4, vI q, vI (6 : Nat), l4], [], LH L (stv I1 (a + 4) (10 * 6 + 0) (fun x => srcc I q (x / 10) (x % 10))) R u), ?_, by show ¬ 65 = 15 + 2; decide, ⟨_, rfl⟩⟩
      unfold wX2_begin_15
      apply t_Qs
      apply t_B
      · refine x_iload_n rfl ?_
        refine x_bipush ?_
        exact rfl
      exact t_ic_ge_t (by omega)
  obtain ⟨r, hl, ls, er⟩ := hl
  subst er
  refine ⟨stv I1 (a + 4) 60 (fun x => srcc I q (x / 10) (x % 10)), ?_, ?_, ?_, fun k hk j hj => ?_, fun x h1 h2 => ?_⟩
  · refine run_of tb_X2_begin (Nat.le_of_ble_eq_true rfl) ?_
    show ∃ ls', am_ev (am_run am_tb (d + 2)) tX2_begin ([vR a, vR 4, vI q, vU, vU], [], LH L I R u) = _
    apply Exists.intro
    unfold tX2_begin
    apply t_Q
    · apply t_S
      refine x_aload_n rfl ?_
      refine x_aload_n rfl ?_
      refine x_gi tg_4 rfl ?_
      refine x_pi ha.2.1 rfl rfl ?_
      refine x_aload_n rfl ?_
      refine x_iconst ?_
      refine x_pi ha.2.1 rfl rfl ?_
      rw [← hI1]
      refine x_iconst ?_
      refine x_istore_n rfl ?_
      exact rfl
    apply t_Q
    · apply t_K
      apply t_W
      exact hl
    apply t_B
    · exact rfl
    exact rfl
  · rw [stv_o (by omega), hI1, au_s, au_n _ _ (by decide), au_s, au_s]
  · rw [stv_o (by omega), hI1, au_s, au_s]
  · rw [stv_s (by omega), show (10 * k + j) / 10 = k by omega, show (10 * k + j) % 10 = j by omega]
  · rw [stv_o h2, f1 x h1]
