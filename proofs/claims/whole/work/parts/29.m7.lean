/-! The reference: sets, at, sums, times, bracket, power. Written by wip/whole/gen_29.py. -/
/-- one more refused call -/
def rf (I : Nat → Nat → Int) (i : Nat) : Nat → Nat → Int := au I 304 (au (I 304) i (I 304 i + 1))
/-- only what is worked on has changed -/
def Fr (I I' : Nat → Nat → Int) : Prop := (∀ a, a < 306 → a ≠ 301 → I' a = I a) ∧ (I' 307 = I 307 ∧ I' 308 = I 308 ∧ (I' 309, I' 311) = (I 309, I 311)) ∧ (I' 301 2 = I 301 2 ∧ I' 301 5 = I 301 5 ∧ I' 301 16 = I 301 16 ∧ I' 301 17 = I 301 17) ∧ (∀ r k, r < 24 → k < 496 → gro I' r k = gro I r k) ∧ Res I'
theorem Fr_r {I : Nat → Nat → Int} (h : Res I) : Fr I I := ⟨fun _ _ _ => rfl, ⟨rfl, rfl, rfl⟩, ⟨rfl, rfl, rfl, rfl⟩, fun _ _ _ _ => rfl, h⟩
theorem Fr_t {I J K : Nat → Nat → Int} (h1 : Fr I J) (h2 : Fr J K) : Fr I K := ⟨fun a p q => (h2.1 a p q).trans (h1.1 a p q), ⟨h2.2.1.1.trans h1.2.1.1, h2.2.1.2.1.trans h1.2.1.2.1, h2.2.1.2.2.trans h1.2.1.2.2⟩, ⟨h2.2.2.1.1.trans h1.2.2.1.1, h2.2.2.1.2.1.trans h1.2.2.1.2.1, h2.2.2.1.2.2.1.trans h1.2.2.1.2.2.1, h2.2.2.1.2.2.2.trans h1.2.2.1.2.2.2⟩, fun r k p q => (h2.2.2.2.1 r k p q).trans (h1.2.2.2.1 r k p q), h2.2.2.2.2⟩
theorem Fr_s {I J : Nat → Nat → Int} {r : Nat} {f : Nat → Int} (h : Fr I J) (hr : 24 ≤ r) (hf : resd f) : Fr I (sro J r f) := Fr_t h ⟨fun a p _ => sro_o (by omega), ⟨sro_o (by decide), sro_o (by decide), by rw [sro_o (show 309 ≠ 306 by decide), sro_o (show 311 ≠ 306 by decide)]⟩, ⟨by rw [sro_o (by decide)], by rw [sro_o (by decide)], by rw [sro_o (by decide)], by rw [sro_o (by decide)]⟩, fun q k p1 p2 => gro_n p2 (by omega), Res_s h.2.2.2.2 hf⟩
theorem Fr_T {I I' : Nat → Nat → Int} (h : Fr I I') (hT : Tabs I) : Tabs I' := by
  unfold Tabs
  rw [h.2.1.1, h.2.1.2.1, show I' 309 = I 309 from congrArg Prod.fst h.2.1.2.2]
  exact hT
/-- what was remembered, then what is now -/
def Nw (I I' : Nat → Nat → Int) (n : Nat) (g : Nat → Int) : Prop := (∀ a, a < 301 → I' a = I a) ∧ (∀ j, j < 609 → I' 302 j = g j) ∧ (∀ j, I' 303 j = m_past I n j) ∧ (I' 304, I' 311) = (I 304, I 311) ∧ I' 305 = I 305 ∧ Tabs I' ∧ Res I' ∧ I' 301 2 = (if n = 5 then 5 else (n : Int) + 1) ∧ I' 301 5 = I 301 5 ∧ I' 301 17 = 0
theorem m_past_c {I J : Nat → Nat → Int} {n : Nat} (h2 : J 302 = I 302) (h3 : J 303 = I 303) : m_past J n = m_past I n := by
  unfold m_past; rw [h2, h3]
/-- an operator is exchanged -/
def sop (I : Nat → Nat → Int) (s : Nat) (f : Nat → Int) : Nat → Int := fun j => if 91 * s ≤ j ∧ j < 91 * s + 91 then f (j - 91 * s) else I 302 j
theorem Nw_put {I J : Nat → Nat → Int} {n s row : Nat} {f : Nat → Int} (h : Fr I J) (hT : Tabs I) (hf : ∀ k, k < 91 → gro J row k = f k) : Nw I (m_put (m_rem J n) s row) n (sop I s f) := by
  have h2 := h.1 302 (by decide) (by decide)
  have h3 := h.1 303 (by decide) (by decide)
  refine ⟨fun a ha => ?_, fun j hj => ?_, fun j => ?_, ?_, ?_, (show Tabs J from Fr_T h hT), h.2.2.2.2, rfl, h.2.2.1.2.1, rfl⟩
  · unfold m_put m_rem
    rw [au_n _ _ (by omega), au_n _ _ (by omega), au_n _ _ (by omega)]
    exact h.1 a (by omega) (by omega)
  · unfold m_put
    rw [au_s]
    show (if 91 * s ≤ j ∧ j < 91 * s + 91 then gro J row (j - 91 * s) else J 302 j) = sop I s f j
    unfold sop
    by_cases c : 91 * s ≤ j ∧ j < 91 * s + 91
    · rw [if_pos c, if_pos c, hf _ (by omega)]
    · rw [if_neg c, if_neg c, h2]
  · show m_past J n j = _
    rw [m_past_c h2 h3]
  · show (J 304, J 311) = (I 304, I 311)
    rw [h.1 304 (by decide) (by decide), show J 311 = I 311 from congrArg Prod.snd h.2.1.2.2]
  · exact h.1 305 (by decide) (by decide)
theorem fe_s {I : Nat → Nat → Int} {r s : Nat} {f : Nat → Int} : fe (sro I r f) s = fe I s := by
  unfold fe; rw [sro_o (by decide)]
/-- what is now: residues, the order -/
def Nr (I : Nat → Nat → Int) : Prop := (∀ j, j < 608 → 0 ≤ I 302 j ∧ I 302 j < 10007) ∧ (I 302 608 = 0 ∨ I 302 608 = 1)
theorem fe_b {I : Nat → Nat → Int} {s : Nat} (h : Nr I) (hs : s < 6) : resd (fe I s) := by
  intro k _
  unfold fe
  split
  · exact h.1 _ (by omega)
  · exact ⟨Int.le_refl 0, by decide⟩
theorem au_at {I : Nat → Nat → Int} {j : Nat} {v : Int} {i : Int} (h : i = j) : au I 302 (au (I 302) i.toNat v) = au I 302 (au (I 302) j v) := by subst h; rfl
set_option maxRecDepth 10000 in
theorem s_sets_bad {d L : Nat} {I : Nat → Nat → Int} {R : Nat → Nat → Option Nat} {u : Int64} (hF : FixR R) {s : Int} {i : Int} {j : Int} {c : Int} (hs : inR s) (hi : inR i) (hj : inR j) (hc : inR c) (hb : ¬ ((0 ≤ s ∧ s ≤ 5) ∧ ((0 ≤ i ∧ i ≤ 12) ∧ 0 ≤ j ∧ j ≤ 12 - i))) : am_run am_tb (d + 3) 157 [vR 301, vI s, vI i, vI j, vI c] (LH L I R u) = some ([vI (-20002)], LH L (rf I 0) R u) := by
  refine run_of tb_X12_sets (Nat.le_of_ble_eq_true rfl) ?_
  show ∃ ls', am_ev (am_run am_tb (d + 2)) tX12_sets ([vR 301, vI s, vI i, vI j, vI c, vU, vU], [], (LH L I R u)) = some (1, ls', [vI (-20002)], LH L (rf I 0) R u)
  by_cases c0 : 0 ≤ s ∧ s ≤ 5
  case neg =>
    apply Exists.intro
    unfold tX12_sets
    apply t_Q
    · apply t_S
      refine x_iload_n rfl ?_
      refine x_S1i (by decide) (Nat.le_of_ble_eq_true rfl) (ret_f c0 (s_isOperator (d := d) hs)) ?_
      exact rfl
    apply t_Qs
    apply t_Ks
    · apply t_Q
      · apply t_K
        apply t_Qs
        apply t_B
        · exact rfl
        exact t_if_eq_t (by omega)
      apply t_B
      · refine x_aload_n rfl ?_
        refine x_V1i tg_301 (Nat.le_of_ble_eq_true rfl) (s_bad (d := d + 1) hF) ?_
        exact rfl
      exact t_ireq (Or.inl rfl) rfl rfl
    · decide
  have c1 : ¬ ((0 ≤ i ∧ i ≤ 12) ∧ 0 ≤ j ∧ j ≤ 12 - i) := by omega
  apply Exists.intro
  unfold tX12_sets
  apply t_Q
  · apply t_S
    refine x_iload_n rfl ?_
    refine x_S1i (by decide) (Nat.le_of_ble_eq_true rfl) (ret_t c0 (s_isOperator (d := d) hs)) ?_
    exact rfl
  apply t_Qs
  apply t_Ks
  · apply t_Q
    · apply t_Ks
      · apply t_Q
        · apply t_B
          · exact rfl
          exact t_if_eq_f (by omega)
        apply t_B
        · refine x_iload_n rfl ?_
          refine x_iload_n rfl ?_
          refine x_S2i (by decide) (Nat.le_of_ble_eq_true rfl) (ret_f c1 (s_isWord (d := d) hi hj)) ?_
          exact rfl
        exact t_if_ne_f (by omega)
      · decide
    apply t_B
    · refine x_aload_n rfl ?_
      refine x_V1i tg_301 (Nat.le_of_ble_eq_true rfl) (s_bad (d := d + 1) hF) ?_
      exact rfl
    exact t_ireq (Or.inl rfl) rfl rfl
  · decide
set_option maxRecDepth 10000 in
theorem s_at_bad {d L : Nat} {I : Nat → Nat → Int} {R : Nat → Nat → Option Nat} {u : Int64} (hF : FixR R) {s : Int} {i : Int} {j : Int} (hs : inR s) (hi : inR i) (hj : inR j) (hb : ¬ ((0 ≤ s ∧ s ≤ 5) ∧ ((0 ≤ i ∧ i ≤ 12) ∧ 0 ≤ j ∧ j ≤ 12 - i))) : am_run am_tb (d + 3) 158 [vR 301, vI s, vI i, vI j] (LH L I R u) = some ([vI (-20002)], LH L (rf I 0) R u) := by
  refine run_of tb_X12_at (Nat.le_of_ble_eq_true rfl) ?_
  show ∃ ls', am_ev (am_run am_tb (d + 2)) tX12_at ([vR 301, vI s, vI i, vI j], [], (LH L I R u)) = some (1, ls', [vI (-20002)], LH L (rf I 0) R u)
  by_cases c0 : 0 ≤ s ∧ s ≤ 5
  case neg =>
    apply Exists.intro
    unfold tX12_at
    apply t_Q
    · apply t_S
      refine x_iload_n rfl ?_
      refine x_S1i (by decide) (Nat.le_of_ble_eq_true rfl) (ret_f c0 (s_isOperator (d := d) hs)) ?_
      exact rfl
    apply t_Q
    · apply t_Ks
      · apply t_Q
        · apply t_K
          apply t_Qs
          apply t_B
          · exact rfl
          exact t_if_eq_t (by omega)
        apply t_S
        refine x_aload_n rfl ?_
        refine x_V1i tg_301 (Nat.le_of_ble_eq_true rfl) (s_bad (d := d + 1) hF) ?_
        exact rfl
      · decide
    apply t_B
    · exact rfl
    exact t_ireq (Or.inl rfl) rfl rfl
  have c1 : ¬ ((0 ≤ i ∧ i ≤ 12) ∧ 0 ≤ j ∧ j ≤ 12 - i) := by omega
  apply Exists.intro
  unfold tX12_at
  apply t_Q
  · apply t_S
    refine x_iload_n rfl ?_
    refine x_S1i (by decide) (Nat.le_of_ble_eq_true rfl) (ret_t c0 (s_isOperator (d := d) hs)) ?_
    exact rfl
  apply t_Q
  · apply t_Ks
    · apply t_Q
      · apply t_K
        apply t_Q
        · apply t_B
          · exact rfl
          exact t_if_eq_f (by omega)
        apply t_Qs
        apply t_B
        · refine x_iload_n rfl ?_
          refine x_iload_n rfl ?_
          refine x_S2i (by decide) (Nat.le_of_ble_eq_true rfl) (ret_f c1 (s_isWord (d := d) hi hj)) ?_
          exact rfl
        exact t_if_eq_t (by omega)
      apply t_S
      refine x_aload_n rfl ?_
      refine x_V1i tg_301 (Nat.le_of_ble_eq_true rfl) (s_bad (d := d + 1) hF) ?_
      exact rfl
    · decide
  apply t_B
  · exact rfl
  exact t_ireq (Or.inl rfl) rfl rfl
set_option maxRecDepth 10000 in
theorem s_sums_bad {d L : Nat} {I : Nat → Nat → Int} {R : Nat → Nat → Option Nat} {u : Int64} (hF : FixR R) {s : Int} {t : Int} {a : Int} {w : Int} {b : Int} (hs : inR s) (ht : inR t) (ha : inR a) (hw : inR w) (hb : inR b) (hb : ¬ ((0 ≤ s ∧ s ≤ 5) ∧ (0 ≤ t ∧ t ≤ 5) ∧ (0 ≤ w ∧ w ≤ 5))) : am_run am_tb (d + 4) 159 [vR 301, vI s, vI t, vI a, vI w, vI b] (LH L I R u) = some ([vI (-20002)], LH L (rf I 0) R u) := by
  refine run_of tb_X12_sums (Nat.le_of_ble_eq_true rfl) ?_
  show ∃ ls', am_ev (am_run am_tb (d + 3)) tX12_sums ([vR 301, vI s, vI t, vI a, vI w, vI b], [], (LH L I R u)) = some (1, ls', [vI (-20002)], LH L (rf I 0) R u)
  by_cases c0 : 0 ≤ s ∧ s ≤ 5
  case neg =>
    apply Exists.intro
    unfold tX12_sums
    apply t_Q
    · apply t_S
      refine x_iload_n rfl ?_
      refine x_S1i (by decide) (Nat.le_of_ble_eq_true rfl) (ret_f c0 (s_isOperator (d := d + 1) hs)) ?_
      exact rfl
    apply t_Qs
    apply t_Ks
    · apply t_Q
      · apply t_K
        apply t_Qs
        apply t_B
        · exact rfl
        exact t_if_eq_t (by omega)
      apply t_B
      · refine x_aload_n rfl ?_
        refine x_V1i tg_301 (Nat.le_of_ble_eq_true rfl) (s_bad (d := d + 2) hF) ?_
        exact rfl
      exact t_ireq (Or.inl rfl) rfl rfl
    · decide
  by_cases c1 : 0 ≤ t ∧ t ≤ 5
  case neg =>
    apply Exists.intro
    unfold tX12_sums
    apply t_Q
    · apply t_S
      refine x_iload_n rfl ?_
      refine x_S1i (by decide) (Nat.le_of_ble_eq_true rfl) (ret_t c0 (s_isOperator (d := d + 1) hs)) ?_
      exact rfl
    apply t_Qs
    apply t_Ks
    · apply t_Q
      · apply t_K
        apply t_Q
        · apply t_B
          · exact rfl
          exact t_if_eq_f (by omega)
        apply t_Qs
        apply t_B
        · refine x_iload_n rfl ?_
          refine x_S1i (by decide) (Nat.le_of_ble_eq_true rfl) (ret_f c1 (s_isOperator (d := d + 1) ht)) ?_
          exact rfl
        exact t_if_eq_t (by omega)
      apply t_B
      · refine x_aload_n rfl ?_
        refine x_V1i tg_301 (Nat.le_of_ble_eq_true rfl) (s_bad (d := d + 2) hF) ?_
        exact rfl
      exact t_ireq (Or.inl rfl) rfl rfl
    · decide
  have c2 : ¬ (0 ≤ w ∧ w ≤ 5) := by omega
  apply Exists.intro
  unfold tX12_sums
  apply t_Q
  · apply t_S
    refine x_iload_n rfl ?_
    refine x_S1i (by decide) (Nat.le_of_ble_eq_true rfl) (ret_t c0 (s_isOperator (d := d + 1) hs)) ?_
    exact rfl
  apply t_Qs
  apply t_Ks
  · apply t_Q
    · apply t_Ks
      · apply t_Q
        · apply t_B
          · exact rfl
          exact t_if_eq_f (by omega)
        apply t_Q
        · apply t_B
          · refine x_iload_n rfl ?_
            refine x_S1i (by decide) (Nat.le_of_ble_eq_true rfl) (ret_t c1 (s_isOperator (d := d + 1) ht)) ?_
            exact rfl
          exact t_if_eq_f (by omega)
        apply t_B
        · refine x_iload rfl ?_
          refine x_S1i (by decide) (Nat.le_of_ble_eq_true rfl) (ret_f c2 (s_isOperator (d := d + 1) hw)) ?_
          exact rfl
        exact t_if_ne_f (by omega)
      · decide
    apply t_B
    · refine x_aload_n rfl ?_
      refine x_V1i tg_301 (Nat.le_of_ble_eq_true rfl) (s_bad (d := d + 2) hF) ?_
      exact rfl
    exact t_ireq (Or.inl rfl) rfl rfl
  · decide
set_option maxRecDepth 10000 in
theorem s_times_bad {d L : Nat} {I : Nat → Nat → Int} {R : Nat → Nat → Option Nat} {u : Int64} (hF : FixR R) {s : Int} {t : Int} {w : Int} (hs : inR s) (ht : inR t) (hw : inR w) (hb : ¬ ((0 ≤ s ∧ s ≤ 5) ∧ (0 ≤ t ∧ t ≤ 5) ∧ (0 ≤ w ∧ w ≤ 5))) : am_run am_tb (d + 5) 160 [vR 301, vI s, vI t, vI w] (LH L I R u) = some ([vI (-20002)], LH L (rf I 0) R u) := by
  refine run_of tb_X12_times (Nat.le_of_ble_eq_true rfl) ?_
  show ∃ ls', am_ev (am_run am_tb (d + 4)) tX12_times ([vR 301, vI s, vI t, vI w], [], (LH L I R u)) = some (1, ls', [vI (-20002)], LH L (rf I 0) R u)
  by_cases c0 : 0 ≤ s ∧ s ≤ 5
  case neg =>
    apply Exists.intro
    unfold tX12_times
    apply t_Q
    · apply t_S
      refine x_iload_n rfl ?_
      refine x_S1i (by decide) (Nat.le_of_ble_eq_true rfl) (ret_f c0 (s_isOperator (d := d + 2) hs)) ?_
      exact rfl
    apply t_Qs
    apply t_Ks
    · apply t_Q
      · apply t_K
        apply t_Qs
        apply t_B
        · exact rfl
        exact t_if_eq_t (by omega)
      apply t_B
      · refine x_aload_n rfl ?_
        refine x_V1i tg_301 (Nat.le_of_ble_eq_true rfl) (s_bad (d := d + 3) hF) ?_
        exact rfl
      exact t_ireq (Or.inl rfl) rfl rfl
    · decide
  by_cases c1 : 0 ≤ t ∧ t ≤ 5
  case neg =>
    apply Exists.intro
    unfold tX12_times
    apply t_Q
    · apply t_S
      refine x_iload_n rfl ?_
      refine x_S1i (by decide) (Nat.le_of_ble_eq_true rfl) (ret_t c0 (s_isOperator (d := d + 2) hs)) ?_
      exact rfl
    apply t_Qs
    apply t_Ks
    · apply t_Q
      · apply t_K
        apply t_Q
        · apply t_B
          · exact rfl
          exact t_if_eq_f (by omega)
        apply t_Qs
        apply t_B
        · refine x_iload_n rfl ?_
          refine x_S1i (by decide) (Nat.le_of_ble_eq_true rfl) (ret_f c1 (s_isOperator (d := d + 2) ht)) ?_
          exact rfl
        exact t_if_eq_t (by omega)
      apply t_B
      · refine x_aload_n rfl ?_
        refine x_V1i tg_301 (Nat.le_of_ble_eq_true rfl) (s_bad (d := d + 3) hF) ?_
        exact rfl
      exact t_ireq (Or.inl rfl) rfl rfl
    · decide
  have c2 : ¬ (0 ≤ w ∧ w ≤ 5) := by omega
  apply Exists.intro
  unfold tX12_times
  apply t_Q
  · apply t_S
    refine x_iload_n rfl ?_
    refine x_S1i (by decide) (Nat.le_of_ble_eq_true rfl) (ret_t c0 (s_isOperator (d := d + 2) hs)) ?_
    exact rfl
  apply t_Qs
  apply t_Ks
  · apply t_Q
    · apply t_Ks
      · apply t_Q
        · apply t_B
          · exact rfl
          exact t_if_eq_f (by omega)
        apply t_Q
        · apply t_B
          · refine x_iload_n rfl ?_
            refine x_S1i (by decide) (Nat.le_of_ble_eq_true rfl) (ret_t c1 (s_isOperator (d := d + 2) ht)) ?_
            exact rfl
          exact t_if_eq_f (by omega)
        apply t_B
        · refine x_iload_n rfl ?_
          refine x_S1i (by decide) (Nat.le_of_ble_eq_true rfl) (ret_f c2 (s_isOperator (d := d + 2) hw)) ?_
          exact rfl
        exact t_if_ne_f (by omega)
      · decide
    apply t_B
    · refine x_aload_n rfl ?_
      refine x_V1i tg_301 (Nat.le_of_ble_eq_true rfl) (s_bad (d := d + 3) hF) ?_
      exact rfl
    exact t_ireq (Or.inl rfl) rfl rfl
  · decide
set_option maxRecDepth 10000 in
theorem s_bracket_bad {d L : Nat} {I : Nat → Nat → Int} {R : Nat → Nat → Option Nat} {u : Int64} (hF : FixR R) {s : Int} {t : Int} {w : Int} (hs : inR s) (ht : inR t) (hw : inR w) (hb : ¬ ((0 ≤ s ∧ s ≤ 5) ∧ (0 ≤ t ∧ t ≤ 5) ∧ (0 ≤ w ∧ w ≤ 5))) : am_run am_tb (d + 5) 161 [vR 301, vI s, vI t, vI w] (LH L I R u) = some ([vI (-20002)], LH L (rf I 0) R u) := by
  refine run_of tb_X12_bracket (Nat.le_of_ble_eq_true rfl) ?_
  show ∃ ls', am_ev (am_run am_tb (d + 4)) tX12_bracket ([vR 301, vI s, vI t, vI w], [], (LH L I R u)) = some (1, ls', [vI (-20002)], LH L (rf I 0) R u)
  by_cases c0 : 0 ≤ s ∧ s ≤ 5
  case neg =>
    apply Exists.intro
    unfold tX12_bracket
    apply t_Q
    · apply t_S
      refine x_iload_n rfl ?_
      refine x_S1i (by decide) (Nat.le_of_ble_eq_true rfl) (ret_f c0 (s_isOperator (d := d + 2) hs)) ?_
      exact rfl
    apply t_Qs
    apply t_Ks
    · apply t_Q
      · apply t_K
        apply t_Qs
        apply t_B
        · exact rfl
        exact t_if_eq_t (by omega)
      apply t_B
      · refine x_aload_n rfl ?_
        refine x_V1i tg_301 (Nat.le_of_ble_eq_true rfl) (s_bad (d := d + 3) hF) ?_
        exact rfl
      exact t_ireq (Or.inl rfl) rfl rfl
    · decide
  by_cases c1 : 0 ≤ t ∧ t ≤ 5
  case neg =>
    apply Exists.intro
    unfold tX12_bracket
    apply t_Q
    · apply t_S
      refine x_iload_n rfl ?_
      refine x_S1i (by decide) (Nat.le_of_ble_eq_true rfl) (ret_t c0 (s_isOperator (d := d + 2) hs)) ?_
      exact rfl
    apply t_Qs
    apply t_Ks
    · apply t_Q
      · apply t_K
        apply t_Q
        · apply t_B
          · exact rfl
          exact t_if_eq_f (by omega)
        apply t_Qs
        apply t_B
        · refine x_iload_n rfl ?_
          refine x_S1i (by decide) (Nat.le_of_ble_eq_true rfl) (ret_f c1 (s_isOperator (d := d + 2) ht)) ?_
          exact rfl
        exact t_if_eq_t (by omega)
      apply t_B
      · refine x_aload_n rfl ?_
        refine x_V1i tg_301 (Nat.le_of_ble_eq_true rfl) (s_bad (d := d + 3) hF) ?_
        exact rfl
      exact t_ireq (Or.inl rfl) rfl rfl
    · decide
  have c2 : ¬ (0 ≤ w ∧ w ≤ 5) := by omega
  apply Exists.intro
  unfold tX12_bracket
  apply t_Q
  · apply t_S
    refine x_iload_n rfl ?_
    refine x_S1i (by decide) (Nat.le_of_ble_eq_true rfl) (ret_t c0 (s_isOperator (d := d + 2) hs)) ?_
    exact rfl
  apply t_Qs
  apply t_Ks
  · apply t_Q
    · apply t_Ks
      · apply t_Q
        · apply t_B
          · exact rfl
          exact t_if_eq_f (by omega)
        apply t_Q
        · apply t_B
          · refine x_iload_n rfl ?_
            refine x_S1i (by decide) (Nat.le_of_ble_eq_true rfl) (ret_t c1 (s_isOperator (d := d + 2) ht)) ?_
            exact rfl
          exact t_if_eq_f (by omega)
        apply t_B
        · refine x_iload_n rfl ?_
          refine x_S1i (by decide) (Nat.le_of_ble_eq_true rfl) (ret_f c2 (s_isOperator (d := d + 2) hw)) ?_
          exact rfl
        exact t_if_ne_f (by omega)
      · decide
    apply t_B
    · refine x_aload_n rfl ?_
      refine x_V1i tg_301 (Nat.le_of_ble_eq_true rfl) (s_bad (d := d + 3) hF) ?_
      exact rfl
    exact t_ireq (Or.inl rfl) rfl rfl
  · decide
set_option maxRecDepth 10000 in
theorem s_power_bad {d L : Nat} {I : Nat → Nat → Int} {R : Nat → Nat → Option Nat} {u : Int64} (hF : FixR R) {s : Int} {t : Int} {n : Int} (hs : inR s) (ht : inR t) (hn : inR n) (hb : ¬ ((0 ≤ s ∧ s ≤ 5) ∧ (0 ≤ t ∧ t ≤ 5) ∧ (0 ≤ n ∧ n ≤ 12))) : am_run am_tb (d + 6) 162 [vR 301, vI s, vI t, vI n] (LH L I R u) = some ([vI (-20002)], LH L (rf I 0) R u) := by
  refine run_of tb_X12_power (Nat.le_of_ble_eq_true rfl) ?_
  show ∃ ls', am_ev (am_run am_tb (d + 5)) tX12_power ([vR 301, vI s, vI t, vI n], [], (LH L I R u)) = some (1, ls', [vI (-20002)], LH L (rf I 0) R u)
  by_cases c0 : 0 ≤ s ∧ s ≤ 5
  case neg =>
    apply Exists.intro
    unfold tX12_power
    apply t_Q
    · apply t_S
      refine x_iload_n rfl ?_
      refine x_S1i (by decide) (Nat.le_of_ble_eq_true rfl) (ret_f c0 (s_isOperator (d := d + 3) hs)) ?_
      exact rfl
    apply t_Qs
    apply t_Ks
    · apply t_Q
      · apply t_K
        apply t_Qs
        apply t_B
        · exact rfl
        exact t_if_eq_t (by omega)
      apply t_B
      · refine x_aload_n rfl ?_
        refine x_V1i tg_301 (Nat.le_of_ble_eq_true rfl) (s_bad (d := d + 4) hF) ?_
        exact rfl
      exact t_ireq (Or.inl rfl) rfl rfl
    · decide
  by_cases c1 : 0 ≤ t ∧ t ≤ 5
  case neg =>
    apply Exists.intro
    unfold tX12_power
    apply t_Q
    · apply t_S
      refine x_iload_n rfl ?_
      refine x_S1i (by decide) (Nat.le_of_ble_eq_true rfl) (ret_t c0 (s_isOperator (d := d + 3) hs)) ?_
      exact rfl
    apply t_Qs
    apply t_Ks
    · apply t_Q
      · apply t_K
        apply t_Q
        · apply t_B
          · exact rfl
          exact t_if_eq_f (by omega)
        apply t_Qs
        apply t_B
        · refine x_iload_n rfl ?_
          refine x_S1i (by decide) (Nat.le_of_ble_eq_true rfl) (ret_f c1 (s_isOperator (d := d + 3) ht)) ?_
          exact rfl
        exact t_if_eq_t (by omega)
      apply t_B
      · refine x_aload_n rfl ?_
        refine x_V1i tg_301 (Nat.le_of_ble_eq_true rfl) (s_bad (d := d + 4) hF) ?_
        exact rfl
      exact t_ireq (Or.inl rfl) rfl rfl
    · decide
  have c2 : ¬ (0 ≤ n ∧ n ≤ 12) := by omega
  apply Exists.intro
  unfold tX12_power
  apply t_Q
  · apply t_S
    refine x_iload_n rfl ?_
    refine x_S1i (by decide) (Nat.le_of_ble_eq_true rfl) (ret_t c0 (s_isOperator (d := d + 3) hs)) ?_
    exact rfl
  apply t_Qs
  apply t_Ks
  · apply t_Q
    · apply t_Ks
      · apply t_Q
        · apply t_B
          · exact rfl
          exact t_if_eq_f (by omega)
        apply t_Q
        · apply t_B
          · refine x_iload_n rfl ?_
            refine x_S1i (by decide) (Nat.le_of_ble_eq_true rfl) (ret_t c1 (s_isOperator (d := d + 3) ht)) ?_
            exact rfl
          exact t_if_eq_f (by omega)
        apply t_B
        · refine x_iload_n rfl ?_
          refine x_iconst ?_
          refine x_bipush ?_
          refine x_S3i (by decide) (Nat.le_of_ble_eq_true rfl) (ret_f c2 (s_in (d := d + 4) hn (by omega) (by omega))) ?_
          exact rfl
        exact t_if_ne_f (by omega)
      · decide
    apply t_B
    · refine x_aload_n rfl ?_
      refine x_V1i tg_301 (Nat.le_of_ble_eq_true rfl) (s_bad (d := d + 4) hF) ?_
      exact rfl
    exact t_ireq (Or.inl rfl) rfl rfl
  · decide
set_option maxRecDepth 10000 in
theorem s_reversed_bad {d L : Nat} {I : Nat → Nat → Int} {R : Nat → Nat → Option Nat} {u : Int64} (hF : FixR R) {s : Int} {t : Int} (hs : inR s) (ht : inR t) (hb : ¬ ((0 ≤ s ∧ s ≤ 5) ∧ (0 ≤ t ∧ t ≤ 5))) : am_run am_tb (d + 4) 163 [vR 301, vI s, vI t] (LH L I R u) = some ([vI (-20002)], LH L (rf I 0) R u) := by
  refine run_of tb_X12_reversed (Nat.le_of_ble_eq_true rfl) ?_
  show ∃ ls', am_ev (am_run am_tb (d + 3)) tX12_reversed ([vR 301, vI s, vI t, vU, vU], [], (LH L I R u)) = some (1, ls', [vI (-20002)], LH L (rf I 0) R u)
  by_cases c0 : 0 ≤ s ∧ s ≤ 5
  case neg =>
    apply Exists.intro
    unfold tX12_reversed
    apply t_Q
    · apply t_S
      refine x_iload_n rfl ?_
      refine x_S1i (by decide) (Nat.le_of_ble_eq_true rfl) (ret_f c0 (s_isOperator (d := d + 1) hs)) ?_
      exact rfl
    apply t_Qs
    apply t_Ks
    · apply t_Q
      · apply t_K
        apply t_Qs
        apply t_B
        · exact rfl
        exact t_if_eq_t (by omega)
      apply t_B
      · refine x_aload_n rfl ?_
        refine x_V1i tg_301 (Nat.le_of_ble_eq_true rfl) (s_bad (d := d + 2) hF) ?_
        exact rfl
      exact t_ireq (Or.inl rfl) rfl rfl
    · decide
  have c1 : ¬ (0 ≤ t ∧ t ≤ 5) := by omega
  apply Exists.intro
  unfold tX12_reversed
  apply t_Q
  · apply t_S
    refine x_iload_n rfl ?_
    refine x_S1i (by decide) (Nat.le_of_ble_eq_true rfl) (ret_t c0 (s_isOperator (d := d + 1) hs)) ?_
    exact rfl
  apply t_Qs
  apply t_Ks
  · apply t_Q
    · apply t_Ks
      · apply t_Q
        · apply t_B
          · exact rfl
          exact t_if_eq_f (by omega)
        apply t_B
        · refine x_iload_n rfl ?_
          refine x_S1i (by decide) (Nat.le_of_ble_eq_true rfl) (ret_f c1 (s_isOperator (d := d + 1) ht)) ?_
          exact rfl
        exact t_if_ne_f (by omega)
      · decide
    apply t_B
    · refine x_aload_n rfl ?_
      refine x_V1i tg_301 (Nat.le_of_ble_eq_true rfl) (s_bad (d := d + 2) hF) ?_
      exact rfl
    exact t_ireq (Or.inl rfl) rfl rfl
  · decide
set_option maxRecDepth 10000 in
theorem s_of_bad {d L : Nat} {I : Nat → Nat → Int} {R : Nat → Nat → Option Nat} {u : Int64} (hF : FixR R) {s : Int} {w : Int} (hs : inR s) (hw : inR w) (hb : ¬ ((0 ≤ s ∧ s ≤ 5) ∧ (0 ≤ w ∧ w ≤ 8))) : am_run am_tb (d + 5) 167 [vR 301, vI s, vI w] (LH L I R u) = some ([vI (-20002)], LH L (rf I 0) R u) := by
  refine run_of tb_X12_of (Nat.le_of_ble_eq_true rfl) ?_
  show ∃ ls', am_ev (am_run am_tb (d + 4)) tX12_of ([vR 301, vI s, vI w], [], (LH L I R u)) = some (1, ls', [vI (-20002)], LH L (rf I 0) R u)
  by_cases c0 : 0 ≤ s ∧ s ≤ 5
  case neg =>
    apply Exists.intro
    unfold tX12_of
    apply t_Q
    · apply t_S
      refine x_iload_n rfl ?_
      refine x_S1i (by decide) (Nat.le_of_ble_eq_true rfl) (ret_f c0 (s_isOperator (d := d + 2) hs)) ?_
      exact rfl
    apply t_Q
    · apply t_Ks
      · apply t_Q
        · apply t_K
          apply t_Qs
          apply t_B
          · exact rfl
          exact t_if_eq_t (by omega)
        apply t_S
        refine x_aload_n rfl ?_
        refine x_V1i tg_301 (Nat.le_of_ble_eq_true rfl) (s_bad (d := d + 3) hF) ?_
        exact rfl
      · decide
    apply t_B
    · exact rfl
    exact t_ireq (Or.inl rfl) rfl rfl
  have c1 : ¬ (0 ≤ w ∧ w ≤ 8) := by omega
  apply Exists.intro
  unfold tX12_of
  apply t_Q
  · apply t_S
    refine x_iload_n rfl ?_
    refine x_S1i (by decide) (Nat.le_of_ble_eq_true rfl) (ret_t c0 (s_isOperator (d := d + 2) hs)) ?_
    exact rfl
  apply t_Q
  · apply t_Ks
    · apply t_Q
      · apply t_K
        apply t_Q
        · apply t_B
          · exact rfl
          exact t_if_eq_f (by omega)
        apply t_Qs
        apply t_B
        · refine x_iload_n rfl ?_
          refine x_iconst ?_
          refine x_bipush ?_
          refine x_S3i (by decide) (Nat.le_of_ble_eq_true rfl) (ret_f c1 (s_in (d := d + 3) hw (by omega) (by omega))) ?_
          exact rfl
        exact t_if_eq_t (by omega)
      apply t_S
      refine x_aload_n rfl ?_
      refine x_V1i tg_301 (Nat.le_of_ble_eq_true rfl) (s_bad (d := d + 3) hF) ?_
      exact rfl
    · decide
  apply t_B
  · exact rfl
  exact t_ireq (Or.inl rfl) rfl rfl
set_option maxRecDepth 10000 in
theorem s_order_bad {d L : Nat} {I : Nat → Nat → Int} {R : Nat → Nat → Option Nat} {u : Int64} (hF : FixR R) {o : Int} (ho : inR o) (hb : ¬ ((0 ≤ o ∧ o ≤ 1))) : am_run am_tb (d + 3) 168 [vR 301, vI o] (LH L I R u) = some ([vI (-20002)], LH L (rf I 0) R u) := by
  refine run_of tb_X12_order (Nat.le_of_ble_eq_true rfl) ?_
  show ∃ ls', am_ev (am_run am_tb (d + 2)) tX12_order ([vR 301, vI o, vU], [], (LH L I R u)) = some (1, ls', [vI (-20002)], LH L (rf I 0) R u)
  have c0 : ¬ (0 ≤ o ∧ o ≤ 1) := by omega
  apply Exists.intro
  unfold tX12_order
  apply t_Q
  · apply t_S
    refine x_iload_n rfl ?_
    refine x_iconst ?_
    refine x_iconst ?_
    refine x_S3i (by decide) (Nat.le_of_ble_eq_true rfl) (ret_f c0 (s_in (d := d + 1) ho (by omega) (by omega))) ?_
    exact rfl
  apply t_Qs
  apply t_Ks
  · apply t_Q
    · apply t_B
      · exact rfl
      exact t_if_ne_f (by omega)
    apply t_B
    · refine x_aload_n rfl ?_
      refine x_V1i tg_301 (Nat.le_of_ble_eq_true rfl) (s_bad (d := d + 1) hF) ?_
      exact rfl
    exact t_ireq (Or.inl rfl) rfl rfl
  · decide
set_option maxRecDepth 10000 in
theorem s_puts_bad {d L : Nat} {I : Nat → Nat → Int} {R : Nat → Nat → Option Nat} {u : Int64} (hF : FixR R) {f : Int} {n : Int} {c : Int} (hf : inR f) (hn : inR n) (hc : inR c) (hb : ¬ ((0 ≤ f ∧ f ≤ 1) ∧ (0 ≤ n ∧ n ≤ 30))) : am_run am_tb (d + 3) 171 [vR 301, vI f, vI n, vI c] (LH L I R u) = some ([vI (-20002)], LH L (rf I 0) R u) := by
  refine run_of tb_X12_puts (Nat.le_of_ble_eq_true rfl) ?_
  show ∃ ls', am_ev (am_run am_tb (d + 2)) tX12_puts ([vR 301, vI f, vI n, vI c, vU], [], (LH L I R u)) = some (1, ls', [vI (-20002)], LH L (rf I 0) R u)
  by_cases c0 : 0 ≤ f ∧ f ≤ 1
  case neg =>
    apply Exists.intro
    unfold tX12_puts
    apply t_Q
    · apply t_S
      refine x_iload_n rfl ?_
      refine x_S1i (by decide) (Nat.le_of_ble_eq_true rfl) (ret_f c0 (s_isPolynomial (d := d) hf)) ?_
      exact rfl
    apply t_Qs
    apply t_Ks
    · apply t_Q
      · apply t_K
        apply t_Qs
        apply t_B
        · exact rfl
        exact t_if_eq_t (by omega)
      apply t_B
      · refine x_aload_n rfl ?_
        refine x_V1i tg_301 (Nat.le_of_ble_eq_true rfl) (s_bad (d := d + 1) hF) ?_
        exact rfl
      exact t_ireq (Or.inl rfl) rfl rfl
    · decide
  have c1 : ¬ (0 ≤ n ∧ n ≤ 30) := by omega
  apply Exists.intro
  unfold tX12_puts
  apply t_Q
  · apply t_S
    refine x_iload_n rfl ?_
    refine x_S1i (by decide) (Nat.le_of_ble_eq_true rfl) (ret_t c0 (s_isPolynomial (d := d) hf)) ?_
    exact rfl
  apply t_Qs
  apply t_Ks
  · apply t_Q
    · apply t_Ks
      · apply t_Q
        · apply t_B
          · exact rfl
          exact t_if_eq_f (by omega)
        apply t_B
        · refine x_iload_n rfl ?_
          refine x_iconst ?_
          refine x_bipush ?_
          refine x_S3i (by decide) (Nat.le_of_ble_eq_true rfl) (ret_f c1 (s_in (d := d + 1) hn (by omega) (by omega))) ?_
          exact rfl
        exact t_if_ne_f (by omega)
      · decide
    apply t_B
    · refine x_aload_n rfl ?_
      refine x_V1i tg_301 (Nat.le_of_ble_eq_true rfl) (s_bad (d := d + 1) hF) ?_
      exact rfl
    exact t_ireq (Or.inl rfl) rfl rfl
  · decide
set_option maxRecDepth 10000 in
theorem s_rate_bad {d L : Nat} {I : Nat → Nat → Int} {R : Nat → Nat → Option Nat} {u : Int64} (hF : FixR R) {f : Int} {n : Int} (hf : inR f) (hn : inR n) (hb : ¬ ((0 ≤ f ∧ f ≤ 1) ∧ (0 ≤ n ∧ n ≤ 30))) : am_run am_tb (d + 3) 172 [vR 301, vI f, vI n] (LH L I R u) = some ([vI (-20002)], LH L (rf I 0) R u) := by
  refine run_of tb_X12_rate (Nat.le_of_ble_eq_true rfl) ?_
  show ∃ ls', am_ev (am_run am_tb (d + 2)) tX12_rate ([vR 301, vI f, vI n], [], (LH L I R u)) = some (1, ls', [vI (-20002)], LH L (rf I 0) R u)
  by_cases c0 : 0 ≤ f ∧ f ≤ 1
  case neg =>
    apply Exists.intro
    unfold tX12_rate
    apply t_Q
    · apply t_S
      refine x_iload_n rfl ?_
      refine x_S1i (by decide) (Nat.le_of_ble_eq_true rfl) (ret_f c0 (s_isPolynomial (d := d) hf)) ?_
      exact rfl
    apply t_Q
    · apply t_Ks
      · apply t_Q
        · apply t_K
          apply t_Qs
          apply t_B
          · exact rfl
          exact t_if_eq_t (by omega)
        apply t_S
        refine x_aload_n rfl ?_
        refine x_V1i tg_301 (Nat.le_of_ble_eq_true rfl) (s_bad (d := d + 1) hF) ?_
        exact rfl
      · decide
    apply t_B
    · exact rfl
    exact t_ireq (Or.inl rfl) rfl rfl
  have c1 : ¬ (0 ≤ n ∧ n ≤ 30) := by omega
  apply Exists.intro
  unfold tX12_rate
  apply t_Q
  · apply t_S
    refine x_iload_n rfl ?_
    refine x_S1i (by decide) (Nat.le_of_ble_eq_true rfl) (ret_t c0 (s_isPolynomial (d := d) hf)) ?_
    exact rfl
  apply t_Q
  · apply t_Ks
    · apply t_Q
      · apply t_K
        apply t_Q
        · apply t_B
          · exact rfl
          exact t_if_eq_f (by omega)
        apply t_Qs
        apply t_B
        · refine x_iload_n rfl ?_
          refine x_iconst ?_
          refine x_bipush ?_
          refine x_S3i (by decide) (Nat.le_of_ble_eq_true rfl) (ret_f c1 (s_in (d := d + 1) hn (by omega) (by omega))) ?_
          exact rfl
        exact t_if_eq_t (by omega)
      apply t_S
      refine x_aload_n rfl ?_
      refine x_V1i tg_301 (Nat.le_of_ble_eq_true rfl) (s_bad (d := d + 1) hF) ?_
      exact rfl
    · decide
  apply t_B
  · exact rfl
  exact t_ireq (Or.inl rfl) rfl rfl
