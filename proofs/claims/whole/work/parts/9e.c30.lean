/-! The class: the completion's rows; gather, unsettle, cheapestPair. Written by wip/whole/gen_9e.py. -/
/-- the rows, in some order -/
def Pr6 (R : Nat → Nat → Option Nat) (ρ : Nat → Nat) : Prop := (∀ k, k < 6 → R 167 k = some (223 + 2 * ρ k) ∧ ρ k < 6) ∧ ∀ k l, k < 6 → l < 6 → ρ k = ρ l → k = l
theorem op_cm {R : Nat → Nat → Option Nat} (hF : FixR R) {r : Nat} (h : r < 6) : Opx R (223 + 2 * r) (224 + 2 * r) := by
  obtain ⟨a2, a3, a4, a5⟩ := (by decide +kernel : ∀ k, k < 6 → tg (223 + 2 * k) = 6 ∧ cstf (223 + 2 * k) 0 = some (224 + 2 * k) ∧ tg (224 + 2 * k) = 20 ∧ (224 + 2 * k ≠ 0 ∧ ly_n.getD (224 + 2 * k) 0 = 91)) r h
  exact ⟨a2, hF.get a3, a4, fun L => ln_of L a5⟩
/-- the completion's numbers and rows -/
def Cst (I : Nat → Nat → Int) (R : Nat → Nat → Option Nat) (ρ : Nat → Nat) (o : Int) (κ ω : Nat) (F : Nat → Nat → Int) (lx ld : Nat → Nat) (st : Nat → Int) : Prop := Pr6 R ρ ∧ I 165 8 = (κ : Nat) ∧ I 165 9 = (ω : Nat) ∧ I 165 10 = o ∧ κ + ω ≤ 6 ∧ (∀ k, k < κ + ω → Gv (F k) ∧ ∀ j, j < 91 → I (224 + 2 * ρ k) j = F k j) ∧ (∀ k, k < κ → I 168 k = (lx k : Nat) ∧ I 169 k = (ld k : Nat) ∧ lx k + ld k ≤ 12) ∧ (∀ k, k < 6 → I 170 k = st k ∧ (st k = 0 ∨ st k = 1))
/-- what the completion leaves as it was -/
def Fcm (I J : Nat → Nat → Int) : Prop := (∀ a, ¬ ((159 ≤ a ∧ a ≤ 165) ∨ (168 ≤ a ∧ a ≤ 170) ∨ (223 ≤ a ∧ a ≤ 234)) → J a = I a) ∧ J 165 3 = I 165 3
theorem Fcm_r (I : Nat → Nat → Int) : Fcm I I := ⟨fun _ _ => rfl, rfl⟩
theorem Fcm_t {I J K : Nat → Nat → Int} (h1 : Fcm I J) (h2 : Fcm J K) : Fcm I K := ⟨fun a ha => (h2.1 a ha).trans (h1.1 a ha), h2.2.trans h1.2⟩
theorem Fcm_B {I J : Nat → Nat → Int} (h : Fcm I J) (hB : Tbc I) : Tbc J := Tbc_o hB (fun a ha => h.1 a (by unfold Nt at ha; omega))
theorem Fcm_a {I J : Nat → Nat → Int} {a : Nat} {f : Nat → Int} (h : Fcm I J) (ha : (159 ≤ a ∧ a ≤ 164) ∨ (168 ≤ a ∧ a ≤ 170) ∨ (223 ≤ a ∧ a ≤ 234)) : Fcm I (au J a f) := Fcm_t h ⟨fun b hb => au_n _ _ (fun z => hb (by omega)), by rw [au_n _ _ (by omega)]⟩
theorem Fcm_f {I J : Nat → Nat → Int} {f : Nat} {v : Int} (h : Fcm I J) (hf : f ≠ 3) : Fcm I (au J 165 (au (J 165) f v)) := Fcm_t h ⟨fun b hb => au_n _ _ (fun z => hb (by omega)), by rw [au_s, au_n _ _ (fun z => hf z.symm)]⟩
theorem Fcm_s {I J : Nat → Nat → Int} {c : Nat} {f : Nat → Int} (h : Fcm I J) (hc : 223 ≤ c ∧ c ≤ 234) : Fcm I (stc J c f) := Fcm_a h (by omega)
set_option maxRecDepth 10000 in
theorem s3_unsettle {d L : Nat} {I : Nat → Nat → Int} {R : Nat → Nat → Option Nat} {u : Int64} (hF : FixR R) {k : Int} (hk : -1 ≤ k ∧ k < 6) : am_run am_tb (d + 1) 31 [vR 165, vI k] (LH L I R u) = some ([], LH L (if 0 ≤ k then au I 170 (au (I 170) k.toNat 0) else I) R u) := by
  refine run_of tb_X3_unsettle (Nat.le_of_ble_eq_true rfl) ?_
  show ∃ ls', am_ev (am_run am_tb (d + 0)) tX3_unsettle ([vR 165, vI k], [], LH L I R u) = _
  by_cases c : 0 ≤ k
  · rw [if_pos c]
    apply Exists.intro
    unfold tX3_unsettle
    apply t_Q
    · apply t_S
      refine x_iload_n rfl ?_
      exact rfl
    apply t_Q
    · apply t_Ks
      · apply t_Q
        · apply t_B
          · exact rfl
          exact t_if_lt_f (by omega)
        apply t_S
        refine x_aload_n rfl ?_
        refine x_gr tg_165 rfl (fx_165_7 hF) ?_
        refine x_iload_n rfl ?_
        refine x_iconst ?_
        refine x_bast tg_170 (ln_170 L) (by omega) (by first | decide | omega) ?_
        exact rfl
      · decide
    apply t_B
    · exact rfl
    exact rfl
  · rw [if_neg c]
    apply Exists.intro
    unfold tX3_unsettle
    apply t_Q
    · apply t_S
      refine x_iload_n rfl ?_
      exact rfl
    apply t_Q
    · apply t_K
      apply t_Qs
      apply t_B
      · exact rfl
      exact t_if_lt_t (by omega)
    apply t_B
    · exact rfl
    exact rfl
/-- the best pair so far -/
def CpB (st : Nat → Int) (k : Nat) (x y : Int) : Prop := (x = -1 ∧ y = 13 ∧ ∀ m, m < k → st m = 1) ∨ ∃ m : Nat, x = (m : Nat) ∧ m < k ∧ st m = 0 ∧ 0 ≤ y ∧ y ≤ 12
set_option maxRecDepth 10000 in
theorem lp3_cheap {d L : Nat} {I : Nat → Nat → Int} {R : Nat → Nat → Option Nat} {u : Int64} (hF : FixR R) {ρ : Nat → Nat} {o : Int} {κ ω : Nat} {F : Nat → Nat → Int} {lx ld : Nat → Nat} {st : Nat → Int} (hC : Cst I R ρ o κ ω F lx ld st) (h12 : ∀ k, k + 1 < κ → lx k + ld (k + 1) ≤ 12) : ∃ r, am_lp (am_ev (am_run am_tb d) wX3_cheapestPair_7) 7 am_F ([vR 165, vI (-1), vI 13, vI (0 : Nat), vU], [], LH L I R u) = some r ∧ ∃ x y l4 z, r = (62, [vR 165, vI x, vI y, vI z, l4], [], LH L I R u) ∧ CpB st (κ - 1) x y := by
  have hk6 := hC.2.2.2.2.1
  refine lp_inv (fun k w => ∃ x y l4, w = ([vR 165, vI x, vI y, vI (k : Nat), l4], [], LH L I R u) ∧ CpB st k x y) _ (κ - 1) ⟨-1, 13, vU, rfl, Or.inl ⟨rfl, rfl, fun m hm => by omega⟩⟩ (ltF (by omega)) (fun k w hk hy => ?_) (fun w hy => ?_)
  · obtain ⟨x, y, l4, e0, hxy⟩ := hy
    subst e0
    have hs := (hC.2.2.2.2.2.2.2 k (by omega)).2
    have h1 := h12 k (by omega)
    have hyb : 0 ≤ y ∧ y ≤ 13 := by
      rcases hxy with ⟨_, e, _⟩ | ⟨m, _, _, _, e1, e2⟩ <;> omega
    by_cases c1 : st k = 1
    · have key : ∃ l4', am_ev (am_run am_tb d) wX3_cheapestPair_7 ([vR 165, vI x, vI y, vI (k : Nat), l4], [], LH L I R u) = some (7 + 2, [vR 165, vI x, vI y, vI (k + 1 : Nat), l4'], [], LH L I R u) := by
        apply Exists.intro
        unfold wX3_cheapestPair_7
        apply t_Q
        · apply t_B
          · refine x_iload_n rfl ?_
            refine x_iconst ?_
            refine x_iadd ?_
            refine x_aload_n rfl ?_
            refine x_giv tg_165 rfl (show _ = (κ : Int) from hC.2.1) ?_
            exact rfl
          exact t_ic_ge_f (by omega)
        apply t_Q
        · apply t_S
          refine x_aload_n rfl ?_
          refine x_gr tg_165 rfl (fx_165_5 hF) ?_
          refine x_iload_n rfl ?_
          refine x_ialdv (Or.inl tg_168) (ln_168 L) (by omega) (show _ = ((lx k : Nat) : Int) from (hC.2.2.2.2.2.2.1 k (by omega)).1) ?_
          refine x_aload_n rfl ?_
          refine x_gr tg_165 rfl (fx_165_6 hF) ?_
          refine x_iload_n rfl ?_
          refine x_iconst ?_
          refine x_iadd ?_
          rw [show (k : Int) + 1 = ((k + 1 : Nat) : Int) by omega]
          refine x_ialdv (Or.inl tg_169) (ln_169 L) (by omega) (show _ = ((ld (k + 1) : Nat) : Int) from (hC.2.2.2.2.2.2.1 (k + 1) (by omega)).2.1) ?_
          refine x_iadd ?_
          refine x_istore rfl ?_
          refine x_aload_n rfl ?_
          refine x_gr tg_165 rfl (fx_165_7 hF) ?_
          refine x_iload_n rfl ?_
          refine x_baldv tg_170 (ln_170 L) (by omega) (show _ = st k from (hC.2.2.2.2.2.2.2 k (by omega)).1) ?_
          exact rfl
        apply t_Q
        · apply t_K
          apply t_Qs
          apply t_B
          · exact rfl
          exact t_if_ne_t (by omega)
        apply t_B
        · refine x_iinc rfl rfl ?_
          exact rfl
        exact t_goeq rfl
      obtain ⟨l4', key⟩ := key
      refine ⟨_, key, x, y, l4', rfl, ?_⟩
      rcases hxy with ⟨a, b, c⟩ | ⟨m, a, b, c⟩
      · refine Or.inl ⟨a, b, fun m hm => ?_⟩
        by_cases e : m = k
        · rw [e]; exact c1
        · exact c m (by omega)
      · exact Or.inr ⟨m, a, by omega, c⟩
    · have c0 : st k = 0 := by omega
      by_cases c2 : ((lx k : Nat) : Int) + ((ld (k + 1) : Nat) : Int) < y
      · have key : ∃ l4', am_ev (am_run am_tb d) wX3_cheapestPair_7 ([vR 165, vI x, vI y, vI (k : Nat), l4], [], LH L I R u) = some (7 + 2, [vR 165, vI (k : Nat), vI (((lx k : Nat) : Int) + ((ld (k + 1) : Nat) : Int)), vI (k + 1 : Nat), l4'], [], LH L I R u) := by
          apply Exists.intro
          unfold wX3_cheapestPair_7
          apply t_Q
          · apply t_B
            · refine x_iload_n rfl ?_
              refine x_iconst ?_
              refine x_iadd ?_
              refine x_aload_n rfl ?_
              refine x_giv tg_165 rfl (show _ = (κ : Int) from hC.2.1) ?_
              exact rfl
            exact t_ic_ge_f (by omega)
          apply t_Q
          · apply t_S
            refine x_aload_n rfl ?_
            refine x_gr tg_165 rfl (fx_165_5 hF) ?_
            refine x_iload_n rfl ?_
            refine x_ialdv (Or.inl tg_168) (ln_168 L) (by omega) (show _ = ((lx k : Nat) : Int) from (hC.2.2.2.2.2.2.1 k (by omega)).1) ?_
            refine x_aload_n rfl ?_
            refine x_gr tg_165 rfl (fx_165_6 hF) ?_
            refine x_iload_n rfl ?_
            refine x_iconst ?_
            refine x_iadd ?_
            rw [show (k : Int) + 1 = ((k + 1 : Nat) : Int) by omega]
            refine x_ialdv (Or.inl tg_169) (ln_169 L) (by omega) (show _ = ((ld (k + 1) : Nat) : Int) from (hC.2.2.2.2.2.2.1 (k + 1) (by omega)).2.1) ?_
            refine x_iadd ?_
            refine x_istore rfl ?_
            refine x_aload_n rfl ?_
            refine x_gr tg_165 rfl (fx_165_7 hF) ?_
            refine x_iload_n rfl ?_
            refine x_baldv tg_170 (ln_170 L) (by omega) (show _ = st k from (hC.2.2.2.2.2.2.2 k (by omega)).1) ?_
            exact rfl
          apply t_Q
          · apply t_Ks
            · apply t_Q
              · apply t_B
                · exact rfl
                exact t_if_ne_f (by omega)
              apply t_Q
              · apply t_B
                · refine x_iload rfl ?_
                  refine x_iload_n rfl ?_
                  exact rfl
                exact t_ic_ge_f (by omega)
              apply t_S
              refine x_iload_n rfl ?_
              refine x_istore_n rfl ?_
              refine x_iload rfl ?_
              refine x_istore_n rfl ?_
              exact rfl
            · decide
          apply t_B
          · refine x_iinc rfl rfl ?_
            exact rfl
          exact t_goeq rfl
        obtain ⟨l4', key⟩ := key
        exact ⟨_, key, _, _, l4', rfl, Or.inr ⟨k, rfl, by omega, c0, by omega, by omega⟩⟩
      · have key : ∃ l4', am_ev (am_run am_tb d) wX3_cheapestPair_7 ([vR 165, vI x, vI y, vI (k : Nat), l4], [], LH L I R u) = some (7 + 2, [vR 165, vI x, vI y, vI (k + 1 : Nat), l4'], [], LH L I R u) := by
          apply Exists.intro
          unfold wX3_cheapestPair_7
          apply t_Q
          · apply t_B
            · refine x_iload_n rfl ?_
              refine x_iconst ?_
              refine x_iadd ?_
              refine x_aload_n rfl ?_
              refine x_giv tg_165 rfl (show _ = (κ : Int) from hC.2.1) ?_
              exact rfl
            exact t_ic_ge_f (by omega)
          apply t_Q
          · apply t_S
            refine x_aload_n rfl ?_
            refine x_gr tg_165 rfl (fx_165_5 hF) ?_
            refine x_iload_n rfl ?_
            refine x_ialdv (Or.inl tg_168) (ln_168 L) (by omega) (show _ = ((lx k : Nat) : Int) from (hC.2.2.2.2.2.2.1 k (by omega)).1) ?_
            refine x_aload_n rfl ?_
            refine x_gr tg_165 rfl (fx_165_6 hF) ?_
            refine x_iload_n rfl ?_
            refine x_iconst ?_
            refine x_iadd ?_
            rw [show (k : Int) + 1 = ((k + 1 : Nat) : Int) by omega]
            refine x_ialdv (Or.inl tg_169) (ln_169 L) (by omega) (show _ = ((ld (k + 1) : Nat) : Int) from (hC.2.2.2.2.2.2.1 (k + 1) (by omega)).2.1) ?_
            refine x_iadd ?_
            refine x_istore rfl ?_
            refine x_aload_n rfl ?_
            refine x_gr tg_165 rfl (fx_165_7 hF) ?_
            refine x_iload_n rfl ?_
            refine x_baldv tg_170 (ln_170 L) (by omega) (show _ = st k from (hC.2.2.2.2.2.2.2 k (by omega)).1) ?_
            exact rfl
          apply t_Q
          · apply t_K
            apply t_Q
            · apply t_B
              · exact rfl
              exact t_if_ne_f (by omega)
            apply t_Qs
            apply t_B
            · refine x_iload rfl ?_
              refine x_iload_n rfl ?_
              exact rfl
            exact t_ic_ge_t (by omega)
          apply t_B
          · refine x_iinc rfl rfl ?_
            exact rfl
          exact t_goeq rfl
        obtain ⟨l4', key⟩ := key
        refine ⟨_, key, x, y, l4', rfl, ?_⟩
        rcases hxy with ⟨a, b, c⟩ | ⟨m, a, b, c⟩
        · exfalso; omega
        · exact Or.inr ⟨m, a, by omega, c⟩
  · obtain ⟨x, y, l4, e0, hxy⟩ := hy
    subst e0
    refine ⟨(62, [vR 165, vI x, vI y, vI ((κ - 1 : Nat) : Int), l4], [], LH L I R u), ?_, by show ¬ 62 = 7 + 2; decide, x, y, l4, _, rfl, hxy⟩
    have hκ : κ ≤ 6 := by omega
    unfold wX3_cheapestPair_7
    apply t_Qs
    apply t_B
    · refine x_iload_n rfl ?_
      refine x_iconst ?_
      refine x_iadd ?_
      refine x_aload_n rfl ?_
      refine x_giv tg_165 rfl (show _ = (κ : Int) from hC.2.1) ?_
      exact rfl
    exact t_ic_ge_t (by omega)
set_option maxRecDepth 10000 in
theorem s3_cheap {d L : Nat} {I : Nat → Nat → Int} {R : Nat → Nat → Option Nat} {u : Int64} (hF : FixR R) {ρ : Nat → Nat} {o : Int} {κ ω : Nat} {F : Nat → Nat → Int} {lx ld : Nat → Nat} {st : Nat → Int} (hC : Cst I R ρ o κ ω F lx ld st) (h12 : ∀ k, k + 1 < κ → lx k + ld (k + 1) ≤ 12) : ∃ x : Int, am_run am_tb (d + 1) 32 [vR 165] (LH L I R u) = some ([vI x], LH L I R u) ∧ ((x = -1 ∧ ∀ m, m + 1 < κ → st m = 1) ∨ ∃ m : Nat, x = (m : Nat) ∧ m + 1 < κ ∧ st m = 0) := by
  obtain ⟨r, hl, x, y, l4, z, er, h⟩ := lp3_cheap (d := d) (L := L) (u := u) hF hC h12
  subst er
  refine ⟨x, ?_, ?_⟩
  · refine run_of tb_X3_cheapestPair (Nat.le_of_ble_eq_true rfl) ?_
    show ∃ ls', am_ev (am_run am_tb (d + 0)) tX3_cheapestPair ([vR 165, vU, vU, vU, vU], [], LH L I R u) = _
    apply Exists.intro
    unfold tX3_cheapestPair
    apply t_Q
    · apply t_S
      refine x_iconst ?_
      refine x_istore_n rfl ?_
      refine x_bipush ?_
      refine x_istore_n rfl ?_
      refine x_iconst ?_
      refine x_istore_n rfl ?_
      exact rfl
    apply t_Q
    · apply t_K
      apply t_W
      exact hl
    apply t_B
    · refine x_iload_n rfl ?_
      exact rfl
    exact t_ireq (Or.inl rfl) rfl rfl
  · rcases h with ⟨a, b, c⟩ | ⟨m, a, b, c, _⟩
    · exact Or.inl ⟨a, fun m hm => c m (by omega)⟩
    · exact Or.inr ⟨m, a, by omega, c⟩
set_option maxRecDepth 10000 in
theorem lp3_gather {d L : Nat} {I : Nat → Nat → Int} {R : Nat → Nat → Option Nat} {u : Int64} (hF : FixR R) (hB : Tbc I) (hS : Sn I) {q : Int} (hq : 0 < q ∧ q < 64) {ρ : Nat → Nat} (hP : Pr6 R ρ) {I0 : Nat → Nat → Int} (h0 : (fun I2 : Nat → Nat → Int => I2 165 8 = 0 ∧ I2 165 9 = (mbN q 0 : Nat) ∧ I2 165 10 = I 4 2 ∧ (∀ m, m < mbN q 0 → ∀ j, j < 91 → I2 (224 + 2 * ρ m) j = opc I (mbE q 0 m) j) ∧ Fcm I I2 ∧ I2 168 = I 168 ∧ I2 169 = I 169 ∧ I2 170 = I 170) I0) : ∃ r, am_lp (am_ev (am_run am_tb (d + 1)) wX3_gather_20) 20 am_F ([vR 165, vR 4, vI q, vI (0 : Nat)], [], LH L I0 R u) = some r ∧ ∃ I2, r = (70, [vR 165, vR 4, vI q, vI (6 : Nat)], [], LH L I2 R u) ∧ I2 165 8 = 0 ∧ I2 165 9 = (mbN q 6 : Nat) ∧ I2 165 10 = I 4 2 ∧ (∀ m, m < mbN q 6 → ∀ j, j < 91 → I2 (224 + 2 * ρ m) j = opc I (mbE q 6 m) j) ∧ Fcm I I2 ∧ I2 168 = I 168 ∧ I2 169 = I 169 ∧ I2 170 = I 170 := by
  refine lp_inv (fun k y => ∃ I2, y = ([vR 165, vR 4, vI q, vI (k : Nat)], [], LH L I2 R u) ∧ I2 165 8 = 0 ∧ I2 165 9 = (mbN q k : Nat) ∧ I2 165 10 = I 4 2 ∧ (∀ m, m < mbN q k → ∀ j, j < 91 → I2 (224 + 2 * ρ m) j = opc I (mbE q k m) j) ∧ Fcm I I2 ∧ I2 168 = I 168 ∧ I2 169 = I 169 ∧ I2 170 = I 170) _ 6 ⟨I0, rfl, h0⟩ (ltF (by omega)) (fun k y hk hy => ?_) (fun y hy => ?_)
  · obtain ⟨J, e0, j8, j9, j10, jr, jF, j168, j169, j170⟩ := hy
    subst e0
    have hmb := mbN_le q k
    by_cases c1 : shf q k % 2 = 1
    · have eN : mbN q (k + 1) = mbN q k + 1 := if_pos c1
      have eE : mbE q (k + 1) = au (mbE q k) (mbN q k) k := if_pos c1
      have hρ := (hP.1 (mbN q k) (by omega)).2
      have hcp := s6_copyFrom (d := d) (L := L) (u := u) (I := J) (op_cm hF hρ) (op_st hF hk)
      have eo : J (10 + 2 * k) = I (10 + 2 * k) := jF.1 _ (by omega)
      rw [eo] at hcp
      refine ⟨([vR 165, vR 4, vI q, vI (k + 1 : Nat)], [], LH L (au (stc J (224 + 2 * ρ (mbN q k)) (I (10 + 2 * k))) 165 (au (stc J (224 + 2 * ρ (mbN q k)) (I (10 + 2 * k)) 165) 9 ((mbN q k : Nat) + 1))) R u), ?_, _, rfl, ?_, ?_, ?_, fun m hm j hj => ?_, Fcm_f (Fcm_s jF (by omega)) (by decide), ?_, ?_, ?_⟩
      · unfold wX3_gather_20
        apply t_Q
        · apply t_B
          · refine x_iload_n rfl ?_
            refine x_bipush ?_
            exact rfl
          exact t_ic_ge_f (by omega)
        apply t_Q
        · apply t_S
          refine x_iload_n rfl ?_
          refine x_iload_n rfl ?_
          refine x_S2i (by decide) (Nat.le_of_ble_eq_true rfl) (ret_t c1 (s11_isInSet (d := d) (q := q) (by omega) (k := k) (by omega))) ?_
          exact rfl
        apply t_Q
        · apply t_Ks
          · apply t_Q
            · apply t_B
              · exact rfl
              exact t_if_eq_f (by omega)
            apply t_S
            refine x_aload_n rfl ?_
            refine x_gr tg_165 rfl (fx_165_4 hF) ?_
            refine x_aload_n rfl ?_
            refine x_giv tg_165 rfl (show _ = ((mbN q k : Nat) : Int) from j9) ?_
            refine x_aald (by rw [tg_167]; decide) (ln_167 L) (by omega) ((hP.1 (mbN q k) (by omega)).1 : R 167 (mbN q k) = some (223 + 2 * ρ (mbN q k))) ?_
            refine x_aload_n rfl ?_
            refine x_gr tg_4 rfl (fx_4_0 hF) ?_
            refine x_iload_n rfl ?_
            refine x_aald (by rw [tg_5]; decide) (ln_5 L) (by omega) (fx_op hF hk : R 5 k = some (9 + 2 * k)) ?_
            refine x_V2v (op_cm hF (hP.1 (mbN q k) (by omega)).2).1 (Nat.le_of_ble_eq_true rfl) (hcp) ?_
            refine x_aload_n rfl ?_
            refine x_dup rfl ?_
            refine x_giv tg_165 rfl (show _ = ((mbN q k : Nat) : Int) by rw [stc_o (by omega)]; exact j9) ?_
            refine x_iconst ?_
            refine x_iadd ?_
            refine x_pi tg_165 rfl rfl ?_
            exact rfl
          · decide
        apply t_B
        · refine x_iinc rfl rfl ?_
          exact rfl
        exact t_goeq rfl
      · rw [au_s, au_n _ _ (by decide), stc_o (by omega)]; exact j8
      · rw [au_s, au_s, eN]; rfl
      · rw [au_s, au_n _ _ (by decide), stc_o (by omega)]; exact j10
      · rw [au_n _ _ (by omega), eE]
        rw [eN] at hm
        by_cases e : m = mbN q k
        · rw [e, stc_s hj, au_s]; exact (cl_s hj).symm
        · rw [stc_o (fun z => e (hP.2 m (mbN q k) (by omega) (by omega) (by omega))), au_n _ _ e]; exact jr m (by omega) j hj
      · rw [au_n _ _ (by decide), stc_o (by omega)]; exact j168
      · rw [au_n _ _ (by decide), stc_o (by omega)]; exact j169
      · rw [au_n _ _ (by decide), stc_o (by omega)]; exact j170
    · have eN : mbN q (k + 1) = mbN q k := if_neg c1
      have eE : mbE q (k + 1) = mbE q k := if_neg c1
      refine ⟨([vR 165, vR 4, vI q, vI (k + 1 : Nat)], [], LH L J R u), ?_, J, rfl, j8, by rw [eN]; exact j9, j10, by rw [eN, eE]; exact jr, jF, j168, j169, j170⟩
      unfold wX3_gather_20
      apply t_Q
      · apply t_B
        · refine x_iload_n rfl ?_
          refine x_bipush ?_
          exact rfl
        exact t_ic_ge_f (by omega)
      apply t_Q
      · apply t_S
        refine x_iload_n rfl ?_
        refine x_iload_n rfl ?_
        refine x_S2i (by decide) (Nat.le_of_ble_eq_true rfl) (ret_f c1 (s11_isInSet (d := d) (q := q) (by omega) (k := k) (by omega))) ?_
        exact rfl
      apply t_Q
      · apply t_K
        apply t_Qs
        apply t_B
        · exact rfl
        exact t_if_eq_t (by omega)
      apply t_B
      · refine x_iinc rfl rfl ?_
        exact rfl
      exact t_goeq rfl
  · obtain ⟨J, e0, h⟩ := hy
    subst e0
    refine ⟨(70, [vR 165, vR 4, vI q, vI (6 : Nat)], [], LH L J R u), ?_, by show ¬ 70 = 20 + 2; decide, J, rfl, h⟩
    unfold wX3_gather_20
    apply t_Qs
    apply t_B
    · refine x_iload_n rfl ?_
      refine x_bipush ?_
      exact rfl
    exact t_ic_ge_t (by omega)
set_option maxRecDepth 10000 in
theorem s3_gather {d L : Nat} {I : Nat → Nat → Int} {R : Nat → Nat → Option Nat} {u : Int64} (hF : FixR R) (hB : Tbc I) (hS : Sn I) {q : Int} (hq : 0 < q ∧ q < 64) {ρ : Nat → Nat} (hP : Pr6 R ρ) (hst : ∀ k, k < 6 → I 170 k = 0 ∨ I 170 k = 1) {lx ld : Nat → Nat} : ∃ J, am_run am_tb (d + 2) 26 [vR 165, vR 4, vI q] (LH L I R u) = some ([], LH L J R u) ∧ Cst J R ρ (I 4 2) 0 (mbN q 6) (fun j => opc I (mbE q 6 j)) lx ld (I 170) ∧ Fcm I J := by
  have hmb := mbN_le q 6
  obtain ⟨I0, hI0⟩ : ∃ I0, I0 = au (au (au I 165 (au (I 165) 10 (I 4 2))) 165 (au (au I 165 (au (I 165) 10 (I 4 2)) 165) 8 0)) 165 (au (au (au I 165 (au (I 165) 10 (I 4 2))) 165 (au (au I 165 (au (I 165) 10 (I 4 2)) 165) 8 0) 165) 9 0) := ⟨_, rfl⟩
  obtain ⟨r, hl, J, er, j8, j9, j10, jr, jF, j168, j169, j170⟩ := lp3_gather (d := d) (L := L) (u := u) hF hB hS hq hP (I0 := I0) (by
    refine ⟨?_, ?_, ?_, fun m hm => absurd hm (Nat.not_lt_zero _), ?_, ?_, ?_, ?_⟩
    · rw [hI0, au_s, au_n _ _ (by decide), au_s, au_s]
    · rw [hI0, au_s, au_s]; rfl
    · rw [hI0, au_s, au_n _ _ (by decide), au_s, au_n _ _ (by decide), au_s, au_s]
    · rw [hI0]; exact Fcm_f (Fcm_f (Fcm_f (Fcm_r I) (by decide)) (by decide)) (by decide)
    · rw [hI0, au_n _ _ (by decide), au_n _ _ (by decide), au_n _ _ (by decide)]
    · rw [hI0, au_n _ _ (by decide), au_n _ _ (by decide), au_n _ _ (by decide)]
    · rw [hI0, au_n _ _ (by decide), au_n _ _ (by decide), au_n _ _ (by decide)])
  subst er
  rw [hI0] at hl
  refine ⟨J, ?_, ⟨hP, j8, j9, j10, by omega, fun k hk => ⟨?_, fun j hj => jr k (by omega) j hj⟩, fun k hk => by omega, fun k hk => by rw [j170]; exact ⟨rfl, hst k hk⟩⟩, jF⟩
  · refine run_of tb_X3_gather (Nat.le_of_ble_eq_true rfl) ?_
    show ∃ ls', am_ev (am_run am_tb (d + 1)) tX3_gather ([vR 165, vR 4, vI q, vU], [], LH L I R u) = _
    apply Exists.intro
    unfold tX3_gather
    apply t_Q
    · apply t_S
      refine x_aload_n rfl ?_
      refine x_aload_n rfl ?_
      refine x_gi tg_4 rfl ?_
      refine x_pi tg_165 rfl rfl ?_
      refine x_aload_n rfl ?_
      refine x_iconst ?_
      refine x_pi tg_165 rfl rfl ?_
      refine x_aload_n rfl ?_
      refine x_iconst ?_
      refine x_pi tg_165 rfl rfl ?_
      refine x_iconst ?_
      refine x_istore_n rfl ?_
      exact rfl
    apply t_Q
    · apply t_K
      apply t_W
      exact hl
    apply t_B
    · exact rfl
    exact rfl
  · have := mbE_lt (q := q) (k := 6) (j := k) (by omega)
    exact ⟨fun j _ => opc_a hS this j, clD⟩
