/-! The reference: rest. Written by wip/whole/gen_59.py. -/
/-- only rows and what belongs to them have changed -/
def Fw (I I' : Nat → Nat → Int) : Prop := (∀ a, a < 306 → a ≠ 301 → I' a = I a) ∧ (I' 307 = I 307 ∧ I' 308 = I 308 ∧ (I' 309, I' 311, I' 315, I' 316) = (I 309, I 311, I 315, I 316)) ∧ (I' 301 2 = I 301 2 ∧ I' 301 5 = I 301 5) ∧ Res I'
theorem Fw_r {I : Nat → Nat → Int} (h : Res I) : Fw I I := ⟨fun _ _ _ => rfl, ⟨rfl, rfl, rfl⟩, ⟨rfl, rfl⟩, h⟩
theorem Fw_t {I J K : Nat → Nat → Int} (h1 : Fw I J) (h2 : Fw J K) : Fw I K := ⟨fun a p q => (h2.1 a p q).trans (h1.1 a p q), ⟨h2.2.1.1.trans h1.2.1.1, h2.2.1.2.1.trans h1.2.1.2.1, h2.2.1.2.2.trans h1.2.1.2.2⟩, ⟨h2.2.2.1.1.trans h1.2.2.1.1, h2.2.2.1.2.trans h1.2.2.1.2⟩, h2.2.2.2⟩
theorem Fw_s {I J : Nat → Nat → Int} {r : Nat} {f : Nat → Int} (h : Fw I J) (hf : resd f) : Fw I (sro J r f) := Fw_t h ⟨fun a p _ => sro_o (by omega), ⟨sro_o (by decide), sro_o (by decide), by rw [sro_o (show 309 ≠ 306 by decide), sro_o (show 311 ≠ 306 by decide), sro_o (show 315 ≠ 306 by decide), sro_o (show 316 ≠ 306 by decide)]⟩, ⟨by rw [sro_o (by decide)], by rw [sro_o (by decide)]⟩, Res_s h.2.2.2 hf⟩
theorem Fw_T {I I' : Nat → Nat → Int} (h : Fw I I') (hT : Tabs I) : Tabs I' := by
  unfold Tabs
  rw [h.2.1.1, h.2.1.2.1, show I' 309 = I 309 from congrArg Prod.fst h.2.1.2.2]
  exact hT
theorem Fw_fe {I I' : Nat → Nat → Int} (h : Fw I I') (s : Nat) : fe I' s = fe I s := by
  unfold fe
  rw [h.1 302 (by decide) (by decide)]
theorem Fw_N {I I' : Nat → Nat → Int} (h : Fw I I') (hN : Nr I) : Nr I' := by
  unfold Nr
  rw [h.1 302 (by decide) (by decide)]
  exact hN
theorem Nw_putw {I J : Nat → Nat → Int} {n s row : Nat} {f : Nat → Int} (h : Fw I J) (hT : Tabs I) (hf : ∀ k, k < 91 → gro J row k = f k) : Nw I (m_put (m_rem J n) s row) n (sop I s f) := by
  have h2 := h.1 302 (by decide) (by decide)
  have h3 := h.1 303 (by decide) (by decide)
  refine ⟨fun a ha => ?_, fun j hj => ?_, fun j => ?_, ?_, ?_, (show Tabs J from Fw_T h hT), h.2.2.2, rfl, h.2.2.1.2, rfl⟩
  · unfold m_put m_rem
    rw [au_n _ _ (by omega), au_n _ _ (by omega), au_n _ _ (by omega)]
    exact h.1 a (by omega) (by omega)
  · unfold m_put
    rw [au_s]
    show (if 91 * s ≤ j ∧ j < 91 * s + 91 then gro J row (j - 91 * s) else J 302 j) = sop I s f j
    unfold sop
    by_cases c : 91 * s ≤ j ∧ j < 91 * s + 91
    · rw [if_pos c, if_pos c, hf _ (by omega)]
    · rw [if_neg c, if_neg c, h2]
  · show m_past J n j = _
    rw [m_past_c h2 h3]
  · show (J 304, J 311) = (I 304, I 311)
    rw [h.1 304 (by decide) (by decide), show J 311 = I 311 from congrArg (fun x => x.2.1) h.2.1.2.2]
  · exact h.1 305 (by decide) (by decide)
/-! The members of a set. -/
def mbN (q : Int) : Nat → Nat
  | 0 => 0
  | k + 1 => if shf q k % 2 = 1 then mbN q k + 1 else mbN q k
def mbE (q : Int) : Nat → Nat → Nat
  | 0 => fun _ => 0
  | k + 1 => if shf q k % 2 = 1 then au (mbE q k) (mbN q k) k else mbE q k
theorem mbN_le (q : Int) (k : Nat) : mbN q k ≤ k := by
  induction k with
  | zero => exact Nat.le_refl _
  | succ k ih => show (if shf q k % 2 = 1 then mbN q k + 1 else mbN q k) ≤ k + 1; split <;> omega
theorem mbE_lt {q : Int} {k j : Nat} (h : j < mbN q k) : mbE q k j < k := by
  induction k with
  | zero => exact absurd h (Nat.not_lt_zero _)
  | succ k ih =>
    have h' : j < if shf q k % 2 = 1 then mbN q k + 1 else mbN q k := h
    show (if shf q k % 2 = 1 then au (mbE q k) (mbN q k) k else mbE q k) j < k + 1
    by_cases c : shf q k % 2 = 1
    · rw [if_pos c]
      rw [if_pos c] at h'
      show (if j = mbN q k then k else mbE q k j) < k + 1
      split
      · omega
      · have := ih (by omega); omega
    · rw [if_neg c]
      rw [if_neg c] at h'
      have := ih h'
      omega
/-- the set's operators lie in rows -/
def rtS (J : Nat → Nat → Int) (n : Nat) (f : Nat → Int) : Nat → Nat → Int := au (au (sro J n f) 312 (au (J 312) n (n : Int))) 301 (au (J 301) 13 ((n : Int) + 1))
def rtI (I : Nat → Nat → Int) (q : Int) : Nat → Nat → Nat → Int
  | 0 => au (au I 301 (au (I 301) 13 0)) 301 (au (au I 301 (au (I 301) 13 0) 301) 17 0)
  | k + 1 => if shf q k % 2 = 1 then rtS (rtI I q k) (mbN q k) (fe I k) else rtI I q k
theorem rt_ok {I : Nat → Nat → Int} {q : Int} (hR : Res I) (hN : Nr I) {k : Nat} (hk : k ≤ 6) : Fw I (rtI I q k) ∧ rtI I q k 301 13 = (mbN q k : Nat) ∧ rtI I q k 301 17 = 0 ∧ (∀ j, j < mbN q k → rtI I q k 312 j = (j : Nat)) ∧ (∀ j, j < mbN q k → ∀ v, v < 496 → gro (rtI I q k) j v = fe I (mbE q k j) v) := by
  induction k with
  | zero =>
    refine ⟨⟨fun a p r => (au_n _ _ r).trans (au_n _ _ r), ⟨rfl, rfl, rfl⟩, ⟨rfl, rfl⟩, hR⟩, rfl, rfl, fun j hj => absurd hj (Nat.not_lt_zero _), fun j hj => absurd hj (Nat.not_lt_zero _)⟩
  | succ k ih =>
    have h := ih (by omega)
    have hle := mbN_le q k
    by_cases c : shf q k % 2 = 1
    · have e1 : rtI I q (k + 1) = rtS (rtI I q k) (mbN q k) (fe I k) := if_pos c
      have e2 : mbN q (k + 1) = mbN q k + 1 := if_pos c
      have e3 : mbE q (k + 1) = au (mbE q k) (mbN q k) k := if_pos c
      have hf := Fw_s (r := mbN q k) h.1 (fe_b hN (show k < 6 by omega))
      rw [e1, e2, e3]
      refine ⟨⟨fun a p r => ?_, ⟨hf.2.1.1, hf.2.1.2.1, hf.2.1.2.2⟩, ⟨hf.2.2.1.1, hf.2.2.1.2⟩, hf.2.2.2⟩, ?_, h.2.2.1, fun j hj => ?_, fun j hj v hv => ?_⟩
      · unfold rtS
        rw [au_n _ _ r, au_n _ _ (by omega)]
        exact hf.1 a p r
      · show ((mbN q k : Nat) : Int) + 1 = _
        omega
      · show (if j = mbN q k then ((mbN q k : Nat) : Int) else rtI I q k 312 j) = _
        by_cases e : j = mbN q k
        · rw [if_pos e, e]
        · rw [if_neg e]; exact h.2.2.2.1 j (by omega)
      · show gro (sro (rtI I q k) (mbN q k) (fe I k)) j v = fe I (if j = mbN q k then k else mbE q k j) v
        by_cases e : j = mbN q k
        · rw [if_pos e, e]; exact gro_s hv
        · rw [if_neg e, gro_n hv e]; exact h.2.2.2.2 j (by omega) v hv
    · have e1 : rtI I q (k + 1) = rtI I q k := if_neg c
      have e2 : mbN q (k + 1) = mbN q k := if_neg c
      have e3 : mbE q (k + 1) = mbE q k := if_neg c
      rw [e1, e2, e3]
      exact h
/-- the rest depends on the words of rows alone -/
theorem rsS_c {o : Int} {ld : Nat → Nat} {b : Nat} {B C : Nat → Nat → Int} (hl : ∀ j, j < b → ld j < 496) (h : ∀ j, j < b → ∀ k, k < 496 → B j k = C j k) (s : (Nat → Int) × (Nat → Int)) : rsS o ld b B s = rsS o ld b C s := by
  unfold rsS
  by_cases c : rsK o ld b s.1 < b
  · rw [if_pos c, if_pos c, abF_c (h _ c) (wds_496 _), wds_c (h _ c)]
    unfold rsC
    rw [h _ c _ (hl _ c)]
  · rw [if_neg c, if_neg c]
theorem rsI_c {o : Int} {ld : Nat → Nat} {b : Nat} {B C : Nat → Nat → Int} (hl : ∀ j, j < b → ld j < 496) (h : ∀ j, j < b → ∀ k, k < 496 → B j k = C j k) (f : Nat → Int) (n : Nat) : rsI o ld b B f n = rsI o ld b C f n := by
  induction n with
  | zero => rfl
  | succ n ih =>
    show (if led o (rsI o ld b B f n).1 < 0 then rsI o ld b B f n else rsS o ld b B (rsI o ld b B f n)) = (if led o (rsI o ld b C f n).1 < 0 then rsI o ld b C f n else rsS o ld b C (rsI o ld b C f n))
    rw [ih, rsS_c hl h]
theorem rsF_c {o : Int} {ld : Nat → Nat} {b : Nat} {B C : Nat → Nat → Int} (hl : ∀ j, j < b → ld j < 496) (h : ∀ j, j < b → ∀ k, k < 496 → B j k = C j k) (f : Nat → Int) : rsF o ld b B f = rsF o ld b C f := by
  unfold rsF rsE
  rw [rsI_c hl h]
/-- the lead of a row -/
def lw (o : Int) (f : Nat → Int) : Nat := (led o f).toNat
theorem lw_ok {o : Int} {f : Nat → Int} (h : ¬ led o f < 0) : lw o f < 496 ∧ led o f = (lw o f : Nat) ∧ f (lw o f) ≠ 0 ∧ (∀ v, v < 496 → f v ≠ 0 → rk o v ≤ rk o (lw o f)) := by
  obtain ⟨w, hw, hl, hf, hm⟩ := led_get h
  have e : lw o f = w := by unfold lw; rw [hl]; rfl
  rw [e]
  exact ⟨hw, hl, hf, hm⟩
theorem dgr_neg {o : Int} {f : Nat → Int} : dgr f < 0 ↔ led o f < 0 := by
  by_cases h : zt f = 496
  · unfold dgr led
    rw [if_pos h, if_pos h]
  · obtain ⟨w, hw, hl, hf⟩ := led_some (o := o) h
    have := dgr_ge hw hf
    omega
theorem Dv_of {o : Int} {b : Nat} {B : Nat → Nat → Int} {ld : Nat → Nat} (hl : ∀ j, j < b → ld j = lw o (B j)) (h : ∀ j, j < b → ¬ led o (B j) < 0) (hr : ∀ j, j < b → ∀ v, 0 ≤ B j v ∧ B j v < 10007) : Dv o ld b B := fun j hj => by
  have := lw_ok (h j hj)
  rw [hl j hj]
  exact ⟨this.1, this.2.2.1, this.2.2.2, hr j hj⟩
set_option maxRecDepth 10000 in
theorem s_rest_bad {d L : Nat} {I : Nat → Nat → Int} {R : Nat → Nat → Option Nat} {u : Int64} (hF : FixR R) {s : Int} {t : Int} {q : Int} (hs : inR s) (ht : inR t) (hq : inR q) (hb : ¬ ((0 ≤ s ∧ s ≤ 5) ∧ (0 ≤ t ∧ t ≤ 5) ∧ (1 ≤ q ∧ q ≤ 63))) : am_run am_tb (d + 4) 188 [vR 301, vI s, vI t, vI q] (LH L I R u) = some ([vI (-20002)], LH L (rf I 0) R u) := by
  refine run_of tb_X12_rest (Nat.le_of_ble_eq_true rfl) ?_
  show ∃ ls', am_ev (am_run am_tb (d + 3)) tX12_rest ([vR 301, vI s, vI t, vI q, vU], [], (LH L I R u)) = some (1, ls', [vI (-20002)], LH L (rf I 0) R u)
  by_cases c0 : 0 ≤ s ∧ s ≤ 5
  case neg =>
    apply Exists.intro
    unfold tX12_rest
    apply t_Q
    · apply t_S
      refine x_iload_n rfl ?_
      refine x_S1i (by decide) (Nat.le_of_ble_eq_true rfl) (ret_f c0 (s_isOperator (d := d + 1) hs)) ?_
      exact rfl
    apply t_Qs
    apply t_Ks
    · apply t_Q
      · apply t_K
        apply t_Qs
        apply t_B
        · exact rfl
        exact t_if_eq_t (by omega)
      apply t_B
      · refine x_aload_n rfl ?_
        refine x_V1i tg_301 (Nat.le_of_ble_eq_true rfl) (s_bad (d := d + 2) hF) ?_
        exact rfl
      exact t_ireq (Or.inl rfl) rfl rfl
    · decide
  by_cases c1 : 0 ≤ t ∧ t ≤ 5
  case neg =>
    apply Exists.intro
    unfold tX12_rest
    apply t_Q
    · apply t_S
      refine x_iload_n rfl ?_
      refine x_S1i (by decide) (Nat.le_of_ble_eq_true rfl) (ret_t c0 (s_isOperator (d := d + 1) hs)) ?_
      exact rfl
    apply t_Qs
    apply t_Ks
    · apply t_Q
      · apply t_K
        apply t_Q
        · apply t_B
          · exact rfl
          exact t_if_eq_f (by omega)
        apply t_Qs
        apply t_B
        · refine x_iload_n rfl ?_
          refine x_S1i (by decide) (Nat.le_of_ble_eq_true rfl) (ret_f c1 (s_isOperator (d := d + 1) ht)) ?_
          exact rfl
        exact t_if_eq_t (by omega)
      apply t_B
      · refine x_aload_n rfl ?_
        refine x_V1i tg_301 (Nat.le_of_ble_eq_true rfl) (s_bad (d := d + 2) hF) ?_
        exact rfl
      exact t_ireq (Or.inl rfl) rfl rfl
    · decide
  have c2 : ¬ (1 ≤ q ∧ q ≤ 63) := by omega
  apply Exists.intro
  unfold tX12_rest
  apply t_Q
  · apply t_S
    refine x_iload_n rfl ?_
    refine x_S1i (by decide) (Nat.le_of_ble_eq_true rfl) (ret_t c0 (s_isOperator (d := d + 1) hs)) ?_
    exact rfl
  apply t_Qs
  apply t_Ks
  · apply t_Q
    · apply t_Ks
      · apply t_Q
        · apply t_B
          · exact rfl
          exact t_if_eq_f (by omega)
        apply t_Q
        · apply t_B
          · refine x_iload_n rfl ?_
            refine x_S1i (by decide) (Nat.le_of_ble_eq_true rfl) (ret_t c1 (s_isOperator (d := d + 1) ht)) ?_
            exact rfl
          exact t_if_eq_f (by omega)
        apply t_B
        · refine x_iload_n rfl ?_
          refine x_S1i (by decide) (Nat.le_of_ble_eq_true rfl) (ret_f c2 (s_isSet (d := d + 1) hq)) ?_
          exact rfl
        exact t_if_ne_f (by omega)
      · decide
    apply t_B
    · refine x_aload_n rfl ?_
      refine x_V1i tg_301 (Nat.le_of_ble_eq_true rfl) (s_bad (d := d + 2) hF) ?_
      exact rfl
    exact t_ireq (Or.inl rfl) rfl rfl
  · decide
set_option maxRecDepth 10000 in
theorem lp_rest1 {d L : Nat} {I : Nat → Nat → Int} {R : Nat → Nat → Option Nat} {u : Int64} (hF : FixR R) (hR : Res I) (hN : Nr I) {q : Int} (hq : 0 ≤ q ∧ q ≤ 63) {s t : Int} : am_lp (am_ev (am_run am_tb (d + 2)) wX12_rest_39) 39 am_F ([vR 301, vI s, vI t, vI q, vI 0], [], LH L (rtI I q 0) R u) = some (97, ([vR 301, vI s, vI t, vI q, vI 6], [], LH L (rtI I q 6) R u)) := by
  skip
  refine lp_up0 (fun k => ([vR 301, vI s, vI t, vI q, vI k], [], LH L (rtI I q k) R u)) (6) rfl (ltF (by first | decide | omega)) (by show ¬ 97 = 39 + 2; decide) (fun k hk => ?_) ?_
  · have hk0 := rt_ok (q := q) hR hN (show k ≤ 6 by omega)
    have hs := shf_b hq k
    have hle := mbN_le q k
    by_cases c : shf q k % 2 = 1
    · have e1 : rtI I q (k + 1) = rtS (rtI I q k) (mbN q k) (fe I k) := if_pos c
      have hfe := s_fetches (d := d) (L := L) (u := u) (I := rtI I q k) hF (s := k) (row := mbN q k) (by omega) (by omega)
      rw [Fw_fe hk0.1] at hfe
      unfold wX12_rest_39
      apply t_Q
      · apply t_B
        · refine x_iload rfl ?_
          refine x_bipush ?_
          exact rfl
        exact t_ic_ge_f (by omega)
      apply t_Q
      · apply t_S
        refine x_iload_n rfl ?_
        refine x_iload rfl ?_
        refine x_ishr (by omega) ?_
        rw [show q / 2 ^ (k : Int).toNat = shf q k from rfl]
        refine x_iconst ?_
        refine x_iand (by omega) ?_
        refine x_iconst ?_
        exact rfl
      apply t_Q
      · apply t_Ks
        · apply t_Q
          · apply t_B
            · exact rfl
            exact t_ic_ne_f (by omega)
          apply t_S
          refine x_aload_n rfl ?_
          refine x_iload rfl ?_
          refine x_aload_n rfl ?_
          refine x_giv tg_301 rfl (show _ = ((mbN q k : Nat) : Int) from hk0.2.1) ?_
          refine x_V3v tg_301 (Nat.le_of_ble_eq_true rfl) (hfe) ?_
          refine x_aload_n rfl ?_
          refine x_gr tg_301 rfl (fx_301_12 hF) ?_
          refine x_aload_n rfl ?_
          refine x_giv tg_301 rfl (show _ = ((mbN q k : Nat) : Int) from hk0.2.1) ?_
          refine x_aload_n rfl ?_
          refine x_giv tg_301 rfl (show _ = ((mbN q k : Nat) : Int) from hk0.2.1) ?_
          refine x_iast tg_312 (ln_312 L) (by omega) ?_
          refine x_aload_n rfl ?_
          refine x_dup rfl ?_
          refine x_giv tg_301 rfl (show _ = ((mbN q k : Nat) : Int) from hk0.2.1) ?_
          refine x_iconst ?_
          refine x_iadd ?_
          refine x_pi tg_301 rfl rfl ?_
          exact rfl
        · decide
      apply t_B
      · refine x_iinc rfl rfl ?_
        exact rfl
      exact t_goeq (s3 rfl (by rw [e1]; rfl))
    have e1 : rtI I q (k + 1) = rtI I q k := if_neg c
    unfold wX12_rest_39
    apply t_Q
    · apply t_B
      · refine x_iload rfl ?_
        refine x_bipush ?_
        exact rfl
      exact t_ic_ge_f (by omega)
    apply t_Q
    · apply t_S
      refine x_iload_n rfl ?_
      refine x_iload rfl ?_
      refine x_ishr (by omega) ?_
      rw [show q / 2 ^ (k : Int).toNat = shf q k from rfl]
      refine x_iconst ?_
      refine x_iand (by omega) ?_
      refine x_iconst ?_
      exact rfl
    apply t_Q
    · apply t_K
      apply t_Qs
      apply t_B
      · exact rfl
      exact t_ic_ne_t (by omega)
    apply t_B
    · refine x_iinc rfl rfl ?_
      exact rfl
    exact t_goeq (s3 rfl (by rw [e1]))
  · unfold wX12_rest_39
    apply t_Qs
    apply t_B
    · refine x_iload rfl ?_
      refine x_bipush ?_
      exact rfl
    exact t_ic_ge_t (by omega)
set_option maxRecDepth 10000 in
theorem lp_rest2 {d L : Nat} {I : Nat → Nat → Int} {R : Nat → Nat → Option Nat} {u : Int64} (hF : FixR R) (hR : Res I) (hT : Tabs I) {b : Nat} (hb : I 301 13 = b) (hb2 : b ≤ 24) (hby : ∀ j, j < b → I 312 j = (j : Nat)) {B : Nat → Nat → Int} (hB : ∀ j, j < b → ∀ v, v < 496 → gro I j v = B j v) {s t q : Int} (hz : ∀ j, j < b → ¬ dgr (B j) < 0) : am_lp (am_ev (am_run am_tb (d + 2)) wX12_rest_98) 98 am_F ([vR 301, vI s, vI t, vI q, vI 0], [], LH L I R u) = some (134, [vR 301, vI s, vI t, vI q, vI b], [], LH L I R u) := by
  refine lp_up0 (fun k => ([vR 301, vI s, vI t, vI q, vI k], [], LH L I R u)) b rfl (ltF (by omega)) (by show ¬ 134 = 98 + 2; decide) (fun k hk => ?_) ?_
  · have hzk := hz k hk
    have hdb := dgr_b (B (k))
    have hdg := s_degreeIn (d := d) (L := L) (u := u) (I := I) hF hR hT (row := k) (by omega)
    rw [dgr_c (g := B (k)) (hB _ hk)] at hdg

    unfold wX12_rest_98
    apply t_Q
    · apply t_B
      · refine x_iload rfl ?_
        refine x_aload_n rfl ?_
        refine x_giv tg_301 rfl (show _ = (b : Int) from hb) ?_
        exact rfl
      exact t_ic_ge_f (by omega)
    apply t_Q
    · apply t_S
      refine x_aload_n rfl ?_
      refine x_aload_n rfl ?_
      refine x_gr tg_301 rfl (fx_301_12 hF) ?_
      refine x_iload rfl ?_
      refine x_ialdv (Or.inl tg_312) (ln_312 L) (by omega) (show _ = ((k : Nat) : Int) from hby _ hk) ?_
      refine x_V2i tg_301 (Nat.le_of_ble_eq_true rfl) (hdg) ?_
      exact rfl
    apply t_Q
    · apply t_K
      apply t_Qs
      apply t_B
      · exact rfl
      exact t_if_ge_t (by omega)
    apply t_B
    · refine x_iinc rfl rfl ?_
      exact rfl
    exact t_goeq rfl
  · unfold wX12_rest_98
    apply t_Qs
    apply t_B
    · refine x_iload rfl ?_
      refine x_aload_n rfl ?_
      refine x_giv tg_301 rfl (show _ = (b : Int) from hb) ?_
      exact rfl
    exact t_ic_ge_t (by omega)
set_option maxRecDepth 10000 in
theorem lp_rest3 {d L : Nat} {I : Nat → Nat → Int} {R : Nat → Nat → Option Nat} {u : Int64} (hF : FixR R) (hR : Res I) (hT : Tabs I) {b : Nat} (hb : I 301 13 = b) (hb2 : b ≤ 24) (hby : ∀ j, j < b → I 312 j = (j : Nat)) {B : Nat → Nat → Int} (hB : ∀ j, j < b → ∀ v, v < 496 → gro I j v = B j v) {s t q : Int} {z : Nat} (hk : z < b) (hz : ∀ j, j < z → ¬ dgr (B j) < 0) (hz2 : dgr (B z) < 0) : am_lp (am_ev (am_run am_tb (d + 2)) wX12_rest_98) 98 am_F ([vR 301, vI s, vI t, vI q, vI 0], [], LH L I R u) = some (1, [vR 301, vI s, vI t, vI q, vI z], [vI (-20003)], LH L (rf I 1) R u) := by
  refine lp_up0 (fun k => ([vR 301, vI s, vI t, vI q, vI k], [], LH L I R u)) z rfl (ltF (by omega)) (by show ¬ 1 = 98 + 2; decide) (fun k hk1 => ?_) ?_
  · have hzk := hz k hk1
    have hk : k < b := by omega
    have hdb := dgr_b (B (k))
    have hdg := s_degreeIn (d := d) (L := L) (u := u) (I := I) hF hR hT (row := k) (by omega)
    rw [dgr_c (g := B (k)) (hB _ hk)] at hdg

    unfold wX12_rest_98
    apply t_Q
    · apply t_B
      · refine x_iload rfl ?_
        refine x_aload_n rfl ?_
        refine x_giv tg_301 rfl (show _ = (b : Int) from hb) ?_
        exact rfl
      exact t_ic_ge_f (by omega)
    apply t_Q
    · apply t_S
      refine x_aload_n rfl ?_
      refine x_aload_n rfl ?_
      refine x_gr tg_301 rfl (fx_301_12 hF) ?_
      refine x_iload rfl ?_
      refine x_ialdv (Or.inl tg_312) (ln_312 L) (by omega) (show _ = ((k : Nat) : Int) from hby _ hk) ?_
      refine x_V2i tg_301 (Nat.le_of_ble_eq_true rfl) (hdg) ?_
      exact rfl
    apply t_Q
    · apply t_K
      apply t_Qs
      apply t_B
      · exact rfl
      exact t_if_ge_t (by omega)
    apply t_B
    · refine x_iinc rfl rfl ?_
      exact rfl
    exact t_goeq rfl
  · have hdb := dgr_b (B (z))
    have hdg := s_degreeIn (d := d) (L := L) (u := u) (I := I) hF hR hT (row := z) (by omega)
    rw [dgr_c (g := B (z)) (hB _ hk)] at hdg
    unfold wX12_rest_98
    apply t_Q
    · apply t_B
      · refine x_iload rfl ?_
        refine x_aload_n rfl ?_
        refine x_giv tg_301 rfl (show _ = (b : Int) from hb) ?_
        exact rfl
      exact t_ic_ge_f (by omega)
    apply t_Q
    · apply t_S
      refine x_aload_n rfl ?_
      refine x_aload_n rfl ?_
      refine x_gr tg_301 rfl (fx_301_12 hF) ?_
      refine x_iload rfl ?_
      refine x_ialdv (Or.inl tg_312) (ln_312 L) (by omega) (show _ = ((z : Nat) : Int) from hby _ hk) ?_
      refine x_V2i tg_301 (Nat.le_of_ble_eq_true rfl) (hdg) ?_
      exact rfl
    apply t_Qs
    apply t_Ks
    · apply t_Q
      · apply t_B
        · exact rfl
        exact t_if_ge_f (by omega)
      apply t_B
      · refine x_aload_n rfl ?_
        refine x_V1i tg_301 (Nat.le_of_ble_eq_true rfl) (s_no (d := d + 1) hF) ?_
        exact rfl
      exact t_ireq (Or.inl rfl) rfl rfl
    · decide
set_option maxRecDepth 10000 in
theorem s_rest_no {d L : Nat} {I : Nat → Nat → Int} {R : Nat → Nat → Option Nat} {u : Int64} (hF : FixR R) (hR : Res I) (hT : Tabs I) (hN : Nr I) {n : Nat} (hn : I 301 2 = n) (h5 : n ≤ 5) {s t : Nat} {q : Int} (hs : s < 6) (ht : t < 6) (hq : 1 ≤ q ∧ q ≤ 63) {z : Nat} (hz0 : z < mbN q 6) (hz : ∀ j, j < z → ¬ dgr (fe I (mbE q 6 j)) < 0) (hz2 : dgr (fe I (mbE q 6 z)) < 0) : am_run am_tb (d + 7) 188 [vR 301, vI s, vI t, vI q] (LH L I R u) = some ([vI (-20003)], LH L (rf (rtI I q 6) 1) R u) := by
  refine run_of tb_X12_rest (Nat.le_of_ble_eq_true rfl) ?_
  show ∃ ls', am_ev (am_run am_tb (d + 6)) tX12_rest ([vR 301, vI s, vI t, vI q, vU], [], (LH L I R u)) = some (1, ls', [vI (-20003)], LH L (rf (rtI I q 6) 1) R u)
  have hk0 := rt_ok (q := q) hR hN (show 6 ≤ 6 by omega)
  have hle := mbN_le q 6
  have hTr := Fw_T hk0.1 hT
  apply Exists.intro
  unfold tX12_rest
  apply t_Q
  · apply t_S
    refine x_iload_n rfl ?_
    refine x_S1i (by decide) (Nat.le_of_ble_eq_true rfl) (ret_t (show 0 ≤ (s : Int) ∧ (s : Int) ≤ 5 from by omega) (s_isOperator (d := d + 4) (by omega))) ?_
    exact rfl
  apply t_Q
  · apply t_K
    apply t_Qs
    apply t_Ks
    · apply t_Q
      · apply t_B
        · exact rfl
        exact t_if_eq_f (by omega)
      apply t_Q
      · apply t_B
        · refine x_iload_n rfl ?_
          refine x_S1i (by decide) (Nat.le_of_ble_eq_true rfl) (ret_t (show 0 ≤ (t : Int) ∧ (t : Int) ≤ 5 from by omega) (s_isOperator (d := d + 4) (by omega))) ?_
          exact rfl
        exact t_if_eq_f (by omega)
      apply t_B
      · refine x_iload_n rfl ?_
        refine x_S1i (by decide) (Nat.le_of_ble_eq_true rfl) (ret_t (show 1 ≤ q ∧ q ≤ 63 from by omega) (s_isSet (d := d + 4) (by omega))) ?_
        exact rfl
      exact t_if_ne_t (by omega)
    · decide
  apply t_Q
  · apply t_S
    refine x_aload_n rfl ?_
    refine x_iconst ?_
    refine x_pi tg_301 rfl rfl ?_
    refine x_aload_n rfl ?_
    refine x_iconst ?_
    refine x_pi tg_301 rfl rfl ?_
    refine x_iconst ?_
    refine x_istore rfl ?_
    exact rfl
  apply t_Q
  · apply t_K
    apply t_W
    exact lp_rest1 (d := d + 4) hF hR hN (by omega)
  apply t_Q
  · apply t_S
    refine x_iconst ?_
    refine x_istore rfl ?_
    exact rfl
  apply t_Qs
  apply t_Ks
  · apply t_W
    exact lp_rest3 (d := d + 4) (I := rtI I q 6) hF hk0.1.2.2.2 hTr hk0.2.1 (by omega) hk0.2.2.2.1 hk0.2.2.2.2 hz0 hz hz2
  · decide
set_option maxRecDepth 10000 in
theorem s_rest_ok {d L : Nat} {I : Nat → Nat → Int} {R : Nat → Nat → Option Nat} {u : Int64} (hF : FixR R) (hR : Res I) (hT : Tabs I) (hN : Nr I) {n : Nat} (hn : I 301 2 = n) (h5 : n ≤ 5) {s t : Nat} {q : Int} (hs : s < 6) (ht : t < 6) (hq : 1 ≤ q ∧ q ≤ 63) {o : Int} (ho : I 302 608 = o) (hz : ∀ j, j < mbN q 6 → ¬ dgr (fe I (mbE q 6 j)) < 0) : ∃ I', am_run am_tb (d + 7) 188 [vR 301, vI s, vI t, vI q] (LH L I R u) = some ([vI (cnt (rsF o (fun j => lw o (fe I (mbE q 6 j))) (mbN q 6) (fun j => fe I (mbE q 6 j)) (fe I t)) 496 : Nat)], LH L I' R u) ∧ Nw I I' n (sop I s (rsF o (fun j => lw o (fe I (mbE q 6 j))) (mbN q 6) (fun j => fe I (mbE q 6 j)) (fe I t)))  ∧ (I' 315, I' 316) = (I 315, I 316) := by
  have h0 : o = 0 ∨ o = 1 := ho ▸ hN.2
  have hk0 := rt_ok (q := q) hR hN (show 6 ≤ 6 by omega)
  have hle := mbN_le q 6
  have hTr := Fw_T hk0.1 hT

  have hfe := s_fetches (d := d + 4) (L := L) (u := u) (I := rtI I q 6) hF (s := t) (row := 24) ht (by omega)
  rw [Fw_fe hk0.1] at hfe
  have hfb := fe_b hN ht
  have hFw := Fw_s (r := 24) hk0.1 hfb
  have hrow : ∀ j, j < mbN q 6 → ∀ v, v < 496 → gro (sro (rtI I q 6) 24 (fe I t)) j v = fe I (mbE q 6 j) v := fun j hj v hv => (gro_n hv (by omega)).trans (hk0.2.2.2.2 j hj v hv)
  have hB : Dv o (fun j => lw o (fe I (mbE q 6 j))) (mbN q 6) (fun j => gro (sro (rtI I q 6) 24 (fe I t)) j) := Dv_of (fun j hj => by
      show lw o _ = lw o _
      unfold lw
      rw [led_c (hrow j hj)]) (fun j hj => by
      show ¬ led o (gro (sro (rtI I q 6) 24 (fe I t)) j) < 0
      rw [led_c (hrow j hj), ← dgr_neg]
      exact hz j hj) (fun j hj v => hFw.2.2.2 _)
  have hrs := s_rests (d := d + 1) (L := L) (u := u) (I := sro (rtI I q 6) 24 (fe I t)) hF hFw.2.2.2 (Fw_T hFw hT) (o := o) (by rw [hFw.1 302 (by decide) (by decide)]; exact ho) h0 (rr := fun j => j) (ld := fun j => lw o (fe I (mbE q 6 j))) (b := mbN q 6) hk0.2.1 (by omega) (fun j hj => ⟨hk0.2.2.2.1 j hj, by omega⟩) (f := fe I t) hfb (fun k hk => gro_s hk) hB
  have he : rsF o (fun j => lw o (fe I (mbE q 6 j))) (mbN q 6) (fun j => gro (sro (rtI I q 6) 24 (fe I t)) j) (fe I t) = (rsF o (fun j => lw o (fe I (mbE q 6 j))) (mbN q 6) (fun j => fe I (mbE q 6 j)) (fe I t)) := rsF_c (fun j hj => (lw_ok (fun z => hz j hj (dgr_neg.mpr z))).1) hrow _
  have hok := rsF_r hB hfb
  have hE1 : resd (rsE o (fun j => lw o (fe I (mbE q 6 j))) (mbN q 6) (fun j => gro (sro (rtI I q 6) 24 (fe I t)) j) (fe I t)).1 := by
    rw [← rsF_N hB hfb]
    exact (rsI_ok hB hfb _).1
  have hfx : (rsE o (fun j => lw o (fe I (mbE q 6 j))) (mbN q 6) (fun j => gro (sro (rtI I q 6) 24 (fe I t)) j) (fe I t)).2 = (rsF o (fun j => lw o (fe I (mbE q 6 j))) (mbN q 6) (fun j => fe I (mbE q 6 j)) (fe I t)) := by
    rw [← he]
    unfold rsF
    rfl
  generalize rsE o (fun j => lw o (fe I (mbE q 6 j))) (mbN q 6) (fun j => gro (sro (rtI I q 6) 24 (fe I t)) j) (fe I t) = E at hrs hE1 hfx
  have hE2 : resd E.2 := by
    rw [hfx, ← he]
    exact hok
  have hFw2 : Fw I (rsH (flI (sro (rtI I q 6) 24 (fe I t)) (fun j => j) (fun j => lw o (fe I (mbE q 6 j))) (mbN q 6)) E) := by
    unfold rsH
    refine Fw_s (Fw_s (Fw_t hFw ⟨fun a p r => ?_, ⟨rfl, rfl, rfl⟩, ⟨rfl, rfl⟩, hFw.2.2.2⟩) hE2) hE1
    unfold flI
    rw [au_n _ _ (by omega), au_n _ _ (by omega)]
  have hrow25 : ∀ k, k < 496 → gro (rsH (flI (sro (rtI I q 6) 24 (fe I t)) (fun j => j) (fun j => lw o (fe I (mbE q 6 j))) (mbN q 6)) E) 25 k = (rsF o (fun j => lw o (fe I (mbE q 6 j))) (mbN q 6) (fun j => fe I (mbE q 6 j)) (fe I t)) k := fun k hk => (rsH_25 k hk).trans (congrFun hfx k)
  generalize rsH (flI (sro (rtI I q 6) 24 (fe I t)) (fun j => j) (fun j => lw o (fe I (mbE q 6 j))) (mbN q 6)) E = J at hrs hFw2 hrow25
  have hkp := s_keepF (d := d + 3) (L := L) (u := u) (I := J) (R := R) hF hFw2.2.2.2 (row := 25) (f := (rsF o (fun j => lw o (fe I (mbE q 6 j))) (mbN q 6) (fun j => fe I (mbE q 6 j)) (fe I t))) hrow25 (hFw2.2.2.1.1.trans hn) h5 hs (by decide)
  refine ⟨m_put (m_rem J n) s 25, ?_, Nw_putw hFw2 hT (fun k hk => hrow25 k (by omega)), congrArg (fun x => x.2.2) hFw2.2.1.2.2⟩
  generalize (rsF o (fun j => lw o (fe I (mbE q 6 j))) (mbN q 6) (fun j => fe I (mbE q 6 j)) (fe I t)) = RE at hkp ⊢
  refine run_of tb_X12_rest (Nat.le_of_ble_eq_true rfl) ?_
  show ∃ ls', am_ev (am_run am_tb (d + 6)) tX12_rest ([vR 301, vI s, vI t, vI q, vU], [], LH L I R u) = some (1, ls', [vI (cnt RE 496 : Nat)], LH L (m_put (m_rem J n) s 25) R u)
  apply Exists.intro
  unfold tX12_rest
  apply t_Q
  · apply t_S
    refine x_iload_n rfl ?_
    refine x_S1i (by decide) (Nat.le_of_ble_eq_true rfl) (ret_t (show 0 ≤ (s : Int) ∧ (s : Int) ≤ 5 from by omega) (s_isOperator (d := d + 4) (by omega))) ?_
    exact rfl
  apply t_Q
  · apply t_K
    apply t_Qs
    apply t_Ks
    · apply t_Q
      · apply t_B
        · exact rfl
        exact t_if_eq_f (by omega)
      apply t_Q
      · apply t_B
        · refine x_iload_n rfl ?_
          refine x_S1i (by decide) (Nat.le_of_ble_eq_true rfl) (ret_t (show 0 ≤ (t : Int) ∧ (t : Int) ≤ 5 from by omega) (s_isOperator (d := d + 4) (by omega))) ?_
          exact rfl
        exact t_if_eq_f (by omega)
      apply t_B
      · refine x_iload_n rfl ?_
        refine x_S1i (by decide) (Nat.le_of_ble_eq_true rfl) (ret_t (show 1 ≤ q ∧ q ≤ 63 from by omega) (s_isSet (d := d + 4) (by omega))) ?_
        exact rfl
      exact t_if_ne_t (by omega)
    · decide
  apply t_Q
  · apply t_S
    refine x_aload_n rfl ?_
    refine x_iconst ?_
    refine x_pi tg_301 rfl rfl ?_
    refine x_aload_n rfl ?_
    refine x_iconst ?_
    refine x_pi tg_301 rfl rfl ?_
    refine x_iconst ?_
    refine x_istore rfl ?_
    exact rfl
  apply t_Q
  · apply t_K
    apply t_W
    exact lp_rest1 (d := d + 4) hF hR hN (by omega)
  apply t_Q
  · apply t_S
    refine x_iconst ?_
    refine x_istore rfl ?_
    exact rfl
  apply t_Q
  · apply t_K
    apply t_W
    exact lp_rest2 (d := d + 4) (I := rtI I q 6) hF hk0.1.2.2.2 hTr hk0.2.1 (by omega) hk0.2.2.2.1 hk0.2.2.2.2 hz
  apply t_B
  · refine x_aload_n rfl ?_
    refine x_iload_n rfl ?_
    refine x_bipush ?_
    refine x_V3v tg_301 (Nat.le_of_ble_eq_true rfl) (hfe) ?_
    refine x_aload_n rfl ?_
    refine x_bipush ?_
    refine x_V2v tg_301 (Nat.le_of_ble_eq_true rfl) (hrs) ?_
    refine x_aload_n rfl ?_
    refine x_iload_n rfl ?_
    refine x_bipush ?_
    refine x_V3i tg_301 (Nat.le_of_ble_eq_true rfl) (hkp) ?_
    exact rfl
  exact t_ireq (Or.inl rfl) rfl rfl
