/-! The class: refused calls, frames, an operator replaced. Written by wip/whole/gen_85.py. -/
theorem fx_op {R : Nat → Nat → Option Nat} (hF : FixR R) {s : Nat} (h : s < 6) : R 5 s = some (9 + 2 * s) := hF.get ((by decide +kernel : ∀ s, s < 6 → cstf 5 s = some (9 + 2 * s)) s h)
theorem op_st {R : Nat → Nat → Option Nat} (hF : FixR R) {s : Nat} (h : s < 6) : Opx R (9 + 2 * s) (10 + 2 * s) := by
  have := ((Stx_4 hF).2.2.2.2.2.2.2.1 s h).2
  rw [show 4 + 5 + 2 * s = 9 + 2 * s by omega, show 4 + 6 + 2 * s = 10 + 2 * s by omega] at this
  exact this
theorem fx_po {R : Nat → Nat → Option Nat} (hF : FixR R) {s : Nat} (h : s < 2) : R 6 s = some (7 + s) := hF.get ((by decide +kernel : ∀ s, s < 2 → cstf 6 s = some (7 + s)) s h)
theorem po_st {s : Nat} (h : s < 2) : Arx (7 + s) 31 := by
  obtain ⟨_, b2, b3⟩ := Stx_pol 5 (by decide) s h
  rw [show stb 5 + 3 + s = 7 + s by rw [show stb 5 = 4 from rfl]] at b2 b3
  exact ⟨b2, fun L => ln_of L b3, by decide⟩
theorem op_299 {R : Nat → Nat → Option Nat} (hF : FixR R) : Opx R 299 300 := ⟨tg_299, fx_299_0 hF, tg_300, ln_300⟩
/-- the present state: residues, an order -/
def Sn (I : Nat → Nat → Int) : Prop := (∀ j, j < 608 → 0 ≤ snow I 4 j ∧ snow I 4 j < 10007) ∧ (I 4 2 = 0 ∨ I 4 2 = 1)
theorem Sn_op {I : Nat → Nat → Int} (h : Sn I) {s : Nat} (hs : s < 6) : Rsc I (10 + 2 * s) := fun j hj => by
  have := h.1 (91 * s + j) (by omega)
  rw [snow_op hs hj, show 4 + 6 + 2 * s = 10 + 2 * s by omega] at this
  exact this
theorem Sn_po {I : Nat → Nat → Int} (h : Sn I) {f n : Nat} (hf : f < 2) (hn : n < 31) : 0 ≤ I (7 + f) n ∧ I (7 + f) n < 10007 := by
  have := h.1 (546 + 31 * f + n) (by omega)
  rw [snow_po hf hn, show 4 + 3 + f = 7 + f by omega] at this
  exact this
/-- one more refused call -/
def rc (I : Nat → Nat → Int) (i : Nat) : Nat → Nat → Int := au I 3 (au (I 3) (10 + i) (I 3 (10 + i) + 1))
/-- cells that are worked with alone -/
def Sca (a : Nat) : Prop := (157 ≤ a ∧ a ≤ 164) ∨ (223 ≤ a ∧ a ≤ 300)
def Fc (I J : Nat → Nat → Int) : Prop := (∀ a, ¬ Sca a → a ≠ 108 → a ≠ 165 → J a = I a) ∧ J 108 1 = I 108 1 ∧ J 165 3 = I 165 3
theorem Fc_r (I : Nat → Nat → Int) : Fc I I := ⟨fun _ _ _ _ => rfl, rfl, rfl⟩
theorem Fc_t {I J K : Nat → Nat → Int} (h1 : Fc I J) (h2 : Fc J K) : Fc I K := ⟨fun a p q r => (h2.1 a p q r).trans (h1.1 a p q r), h2.2.1.trans h1.2.1, h2.2.2.trans h1.2.2⟩
theorem Fc_n {I J : Nat → Nat → Int} (h : ∀ a, ¬ Sca a → J a = I a) : Fc I J := ⟨fun a p _ _ => h a p, by rw [h 108 (by unfold Sca; omega)], by rw [h 165 (by unfold Sca; omega)]⟩
theorem Fc_s {I J : Nat → Nat → Int} {c : Nat} {f : Nat → Int} (h : Fc I J) (hc : Sca c) : Fc I (stc J c f) := Fc_t h (Fc_n (fun a ha => stc_o (fun e => ha (e ▸ hc))))
theorem Fc_B {I J : Nat → Nat → Int} (h : Fc I J) (hB : Tbc I) : Tbc J := Tbc_o hB (fun a ha => h.1 a (by unfold Sca; unfold Nt at ha; omega) (by unfold Nt at ha; omega) (by unfold Nt at ha; omega))
theorem Fc_sn {I J : Nat → Nat → Int} (h : Fc I J) {x : Nat} (hx : x + 17 ≤ 108) (j : Nat) (hj : j < 609) : snow J x j = snow I x j := snow_o (fun a h1 h2 => h.1 a (by unfold Sca; omega) (by omega) (by omega)) hj
theorem Fc_Sn {I J : Nat → Nat → Int} (h : Fc I J) (hS : Sn I) : Sn J := ⟨fun j hj => by rw [Fc_sn h (by decide) j (by omega)]; exact hS.1 j hj, by rw [h.1 4 (by unfold Sca; omega) (by decide) (by decide)]; exact hS.2⟩
/-- a change: the state before it is kept, then it is g -/
def Cw (I J : Nat → Nat → Int) (t n : Nat) (g : Nat → Int) : Prop := (∀ j, j < 609 → snow J 4 j = g j) ∧ (∀ j, j < 609 → snow J (23 + 17 * t) j = snow I 4 j) ∧ J 21 1 = ((t + 1) % 5 : Nat) ∧ J 21 2 = (min (n + 1) 5 : Nat) ∧ (∀ a, ¬ Sca a → ¬ (4 ≤ a ∧ a ≤ 21) → ¬ (23 + 17 * t ≤ a ∧ a < 23 + 17 * t + 17) → a ≠ 108 → a ≠ 165 → J a = I a) ∧ J 108 1 = I 108 1 ∧ J 165 3 = I 165 3
theorem Cw_F {I M J : Nat → Nat → Int} {t n : Nat} {g : Nat → Int} (h : Fc I M) (hC : Cw M J t n g) : Cw I J t n g := ⟨hC.1, fun j hj => by rw [hC.2.1 j hj, Fc_sn h (by decide) j hj], hC.2.2.1, hC.2.2.2.1, fun a h1 h2 h3 h4 h5 => (hC.2.2.2.2.1 a h1 h2 h3 h4 h5).trans (h.1 a h1 h4 h5), hC.2.2.2.2.2.1.trans h.2.1, hC.2.2.2.2.2.2.trans h.2.2⟩
theorem Cw_c {I J : Nat → Nat → Int} {t n : Nat} {g g' : Nat → Int} (hC : Cw I J t n g) (h : ∀ j, j < 609 → g j = g' j) : Cw I J t n g' := ⟨fun j hj => (hC.1 j hj).trans (h j hj), hC.2⟩
/-- keep, then the present state is worked on -/
theorem Cw_k {I K J : Nat → Nat → Int} {t n : Nat} {g : Nat → Int} (ht : t < 5) (h1 : ∀ j, j < 609 → snow K (23 + 17 * t) j = snow I 4 j) (h2 : K 21 1 = ((t + 1) % 5 : Nat)) (h3 : K 21 2 = (min (n + 1) 5 : Nat)) (h4 : ∀ a, ¬ (23 + 17 * t ≤ a ∧ a < 23 + 17 * t + 17) → a ≠ 21 → K a = I a) (h5 : ∀ a, ¬ (4 ≤ a ∧ a ≤ 20) → J a = K a) (h6 : ∀ j, j < 609 → snow J 4 j = g j) : Cw I J t n g := by
  refine ⟨h6, fun j hj => ?_, ?_, ?_, fun a a1 a2 a3 a4 a5 => ?_, ?_, ?_⟩
  · rw [← h1 j hj]; exact snow_o (fun a h7 h8 => h5 a (by omega)) hj
  · rw [h5 21 (by omega)]; exact h2
  · rw [h5 21 (by omega)]; exact h3
  · rw [h5 a (by omega), h4 a a3 (by omega)]
  · rw [h5 108 (by omega), h4 108 (by omega) (by omega)]
  · rw [h5 165 (by omega), h4 165 (by omega) (by omega)]
/-- one operator of a state is another -/
def sopS (h : Nat → Int) (s : Nat) (f : Nat → Int) : Nat → Int := fun j => if 91 * s ≤ j ∧ j < 91 * s + 91 then f (j - 91 * s) else h j
theorem snow_set {I J : Nat → Nat → Int} {s : Nat} {f : Nat → Int} (hs : s < 6) (h1 : ∀ j, j < 91 → J (10 + 2 * s) j = f j) (h2 : ∀ a, 4 ≤ a → a ≤ 20 → a ≠ 10 + 2 * s → J a = I a) : ∀ j, j < 609 → snow J 4 j = sopS (snow I 4) s f j := by
  refine snow_mk (fun r j hr hj => ?_) (fun g n hg hn => ?_) ?_
  · unfold sopS
    by_cases e : r = s
    · rw [if_pos (by omega), e, show 4 + 6 + 2 * s = 10 + 2 * s by omega, h1 j hj, show 91 * s + j - 91 * s = j by omega]
    · rw [if_neg (by omega), snow_op hr hj, h2 _ (by omega) (by omega) (by omega)]
  · unfold sopS
    rw [if_neg (by omega), snow_po hg hn, h2 _ (by omega) (by omega) (by omega)]
  · unfold sopS
    rw [if_neg (by omega), snow_or, h2 _ (by omega) (by omega) (by omega)]
/-- the history's own numbers -/
def Hi (I : Nat → Nat → Int) (t n : Nat) : Prop := I 21 1 = (t : Nat) ∧ t < 5 ∧ I 21 2 = (n : Nat) ∧ n ≤ 5
theorem Fc_Hi {I J : Nat → Nat → Int} {t n : Nat} (h : Fc I J) (hH : Hi I t n) : Hi J t n := by
  have e := h.1 21 (by unfold Sca; omega) (by decide) (by decide)
  exact ⟨by rw [e]; exact hH.1, hH.2.1, by rw [e]; exact hH.2.2.1, hH.2.2.2⟩
set_option maxRecDepth 10000 in
theorem s11_isOperator {d : Nat} {h : am_H} {s : Int} (h1 : inR s) : am_run am_tb (d + 1) 125 [vI s] h = some ([vI (if 0 ≤ s ∧ s < 6 then 1 else 0)], h) := by
  refine run_of tb_X11_isOperator (Nat.le_of_ble_eq_true rfl) ?_
  show ∃ ls', am_ev (am_run am_tb (d + 0)) tX11_isOperator ([vI s], [], h) = some (1, ls', [vI (if 0 ≤ s ∧ s < 6 then 1 else 0)], h)
  by_cases c1 : s < 0
  · rw [if_neg (by omega)]
    apply Exists.intro
    unfold tX11_isOperator
    apply t_Q
    · apply t_S
      refine x_iload_n rfl ?_
      exact rfl
    apply t_Q
    · apply t_Ks
      · apply t_Q
        · apply t_K
          apply t_Qs
          apply t_B
          · exact rfl
          exact t_if_lt_t (by omega)
        apply t_S
        refine x_iconst ?_
        exact rfl
      · decide
    apply t_B
    · exact rfl
    exact t_ireq (Or.inr (by first | exact Or.inl rfl | exact Or.inr rfl)) rfl rfl
  by_cases c2 : 6 ≤ s
  · rw [if_neg (by omega)]
    apply Exists.intro
    unfold tX11_isOperator
    apply t_Q
    · apply t_S
      refine x_iload_n rfl ?_
      exact rfl
    apply t_Q
    · apply t_Ks
      · apply t_Q
        · apply t_K
          apply t_Q
          · apply t_B
            · exact rfl
            exact t_if_lt_f (by omega)
          apply t_Qs
          apply t_B
          · refine x_iload_n rfl ?_
            refine x_bipush ?_
            exact rfl
          exact t_ic_ge_t (by omega)
        apply t_S
        refine x_iconst ?_
        exact rfl
      · decide
    apply t_B
    · exact rfl
    exact t_ireq (Or.inr (by first | exact Or.inl rfl | exact Or.inr rfl)) rfl rfl
  · rw [if_pos (by omega)]
    apply Exists.intro
    unfold tX11_isOperator
    apply t_Q
    · apply t_S
      refine x_iload_n rfl ?_
      exact rfl
    apply t_Q
    · apply t_K
      apply t_Qs
      apply t_Ks
      · apply t_Q
        · apply t_B
          · exact rfl
          exact t_if_lt_f (by omega)
        apply t_Q
        · apply t_B
          · refine x_iload_n rfl ?_
            refine x_bipush ?_
            exact rfl
          exact t_ic_ge_f (by omega)
        apply t_B
        · refine x_iconst ?_
          exact rfl
        exact t_goto
      · decide
    apply t_B
    · exact rfl
    exact t_ireq (Or.inr (by first | exact Or.inl rfl | exact Or.inr rfl)) rfl rfl
set_option maxRecDepth 10000 in
theorem s11_isPolynomial {d : Nat} {h : am_H} {s : Int} (h1 : inR s) : am_run am_tb (d + 1) 126 [vI s] h = some ([vI (if 0 ≤ s ∧ s < 2 then 1 else 0)], h) := by
  refine run_of tb_X11_isPolynomial (Nat.le_of_ble_eq_true rfl) ?_
  show ∃ ls', am_ev (am_run am_tb (d + 0)) tX11_isPolynomial ([vI s], [], h) = some (1, ls', [vI (if 0 ≤ s ∧ s < 2 then 1 else 0)], h)
  by_cases c1 : s < 0
  · rw [if_neg (by omega)]
    apply Exists.intro
    unfold tX11_isPolynomial
    apply t_Q
    · apply t_S
      refine x_iload_n rfl ?_
      exact rfl
    apply t_Q
    · apply t_Ks
      · apply t_Q
        · apply t_K
          apply t_Qs
          apply t_B
          · exact rfl
          exact t_if_lt_t (by omega)
        apply t_S
        refine x_iconst ?_
        exact rfl
      · decide
    apply t_B
    · exact rfl
    exact t_ireq (Or.inr (by first | exact Or.inl rfl | exact Or.inr rfl)) rfl rfl
  by_cases c2 : 2 ≤ s
  · rw [if_neg (by omega)]
    apply Exists.intro
    unfold tX11_isPolynomial
    apply t_Q
    · apply t_S
      refine x_iload_n rfl ?_
      exact rfl
    apply t_Q
    · apply t_Ks
      · apply t_Q
        · apply t_K
          apply t_Q
          · apply t_B
            · exact rfl
            exact t_if_lt_f (by omega)
          apply t_Qs
          apply t_B
          · refine x_iload_n rfl ?_
            refine x_iconst ?_
            exact rfl
          exact t_ic_ge_t (by omega)
        apply t_S
        refine x_iconst ?_
        exact rfl
      · decide
    apply t_B
    · exact rfl
    exact t_ireq (Or.inr (by first | exact Or.inl rfl | exact Or.inr rfl)) rfl rfl
  · rw [if_pos (by omega)]
    apply Exists.intro
    unfold tX11_isPolynomial
    apply t_Q
    · apply t_S
      refine x_iload_n rfl ?_
      exact rfl
    apply t_Q
    · apply t_K
      apply t_Qs
      apply t_Ks
      · apply t_Q
        · apply t_B
          · exact rfl
          exact t_if_lt_f (by omega)
        apply t_Q
        · apply t_B
          · refine x_iload_n rfl ?_
            refine x_iconst ?_
            exact rfl
          exact t_ic_ge_f (by omega)
        apply t_B
        · refine x_iconst ?_
          exact rfl
        exact t_goto
      · decide
    apply t_B
    · exact rfl
    exact t_ireq (Or.inr (by first | exact Or.inl rfl | exact Or.inr rfl)) rfl rfl
set_option maxRecDepth 10000 in
theorem s11_isPower {d : Nat} {h : am_H} {s : Int} (h1 : inR s) : am_run am_tb (d + 1) 127 [vI s] h = some ([vI (if 0 ≤ s ∧ s ≤ 30 then 1 else 0)], h) := by
  refine run_of tb_X11_isPower (Nat.le_of_ble_eq_true rfl) ?_
  show ∃ ls', am_ev (am_run am_tb (d + 0)) tX11_isPower ([vI s], [], h) = some (1, ls', [vI (if 0 ≤ s ∧ s ≤ 30 then 1 else 0)], h)
  by_cases c1 : s < 0
  · rw [if_neg (by omega)]
    apply Exists.intro
    unfold tX11_isPower
    apply t_Q
    · apply t_S
      refine x_iload_n rfl ?_
      exact rfl
    apply t_Q
    · apply t_Ks
      · apply t_Q
        · apply t_K
          apply t_Qs
          apply t_B
          · exact rfl
          exact t_if_lt_t (by omega)
        apply t_S
        refine x_iconst ?_
        exact rfl
      · decide
    apply t_B
    · exact rfl
    exact t_ireq (Or.inr (by first | exact Or.inl rfl | exact Or.inr rfl)) rfl rfl
  by_cases c2 : 30 < s
  · rw [if_neg (by omega)]
    apply Exists.intro
    unfold tX11_isPower
    apply t_Q
    · apply t_S
      refine x_iload_n rfl ?_
      exact rfl
    apply t_Q
    · apply t_Ks
      · apply t_Q
        · apply t_K
          apply t_Q
          · apply t_B
            · exact rfl
            exact t_if_lt_f (by omega)
          apply t_Qs
          apply t_B
          · refine x_iload_n rfl ?_
            refine x_bipush ?_
            exact rfl
          exact t_ic_gt_t (by omega)
        apply t_S
        refine x_iconst ?_
        exact rfl
      · decide
    apply t_B
    · exact rfl
    exact t_ireq (Or.inr (by first | exact Or.inl rfl | exact Or.inr rfl)) rfl rfl
  · rw [if_pos (by omega)]
    apply Exists.intro
    unfold tX11_isPower
    apply t_Q
    · apply t_S
      refine x_iload_n rfl ?_
      exact rfl
    apply t_Q
    · apply t_K
      apply t_Qs
      apply t_Ks
      · apply t_Q
        · apply t_B
          · exact rfl
          exact t_if_lt_f (by omega)
        apply t_Q
        · apply t_B
          · refine x_iload_n rfl ?_
            refine x_bipush ?_
            exact rfl
          exact t_ic_gt_f (by omega)
        apply t_B
        · refine x_iconst ?_
          exact rfl
        exact t_goto
      · decide
    apply t_B
    · exact rfl
    exact t_ireq (Or.inr (by first | exact Or.inl rfl | exact Or.inr rfl)) rfl rfl
set_option maxRecDepth 10000 in
theorem s11_isSet {d : Nat} {h : am_H} {s : Int} (h1 : inR s) : am_run am_tb (d + 1) 128 [vI s] h = some ([vI (if 0 < s ∧ s < 64 then 1 else 0)], h) := by
  refine run_of tb_X11_isSet (Nat.le_of_ble_eq_true rfl) ?_
  show ∃ ls', am_ev (am_run am_tb (d + 0)) tX11_isSet ([vI s], [], h) = some (1, ls', [vI (if 0 < s ∧ s < 64 then 1 else 0)], h)
  by_cases c1 : s ≤ 0
  · rw [if_neg (by omega)]
    apply Exists.intro
    unfold tX11_isSet
    apply t_Q
    · apply t_S
      refine x_iload_n rfl ?_
      exact rfl
    apply t_Q
    · apply t_Ks
      · apply t_Q
        · apply t_K
          apply t_Qs
          apply t_B
          · exact rfl
          exact t_if_le_t (by omega)
        apply t_S
        refine x_iconst ?_
        exact rfl
      · decide
    apply t_B
    · exact rfl
    exact t_ireq (Or.inr (by first | exact Or.inl rfl | exact Or.inr rfl)) rfl rfl
  by_cases c2 : 64 ≤ s
  · rw [if_neg (by omega)]
    apply Exists.intro
    unfold tX11_isSet
    apply t_Q
    · apply t_S
      refine x_iload_n rfl ?_
      exact rfl
    apply t_Q
    · apply t_Ks
      · apply t_Q
        · apply t_K
          apply t_Q
          · apply t_B
            · exact rfl
            exact t_if_le_f (by omega)
          apply t_Qs
          apply t_B
          · refine x_iload_n rfl ?_
            refine x_bipush ?_
            exact rfl
          exact t_ic_ge_t (by omega)
        apply t_S
        refine x_iconst ?_
        exact rfl
      · decide
    apply t_B
    · exact rfl
    exact t_ireq (Or.inr (by first | exact Or.inl rfl | exact Or.inr rfl)) rfl rfl
  · rw [if_pos (by omega)]
    apply Exists.intro
    unfold tX11_isSet
    apply t_Q
    · apply t_S
      refine x_iload_n rfl ?_
      exact rfl
    apply t_Q
    · apply t_K
      apply t_Qs
      apply t_Ks
      · apply t_Q
        · apply t_B
          · exact rfl
          exact t_if_le_f (by omega)
        apply t_Q
        · apply t_B
          · refine x_iload_n rfl ?_
            refine x_bipush ?_
            exact rfl
          exact t_ic_ge_f (by omega)
        apply t_B
        · refine x_iconst ?_
          exact rfl
        exact t_goto
      · decide
    apply t_B
    · exact rfl
    exact t_ireq (Or.inr (by first | exact Or.inl rfl | exact Or.inr rfl)) rfl rfl
set_option maxRecDepth 10000 in
theorem s11_isInSet {d : Nat} {h : am_H} {q : Int} (h1 : 0 ≤ q ∧ q ≤ 63) {k : Nat} (hk : k < 6) : am_run am_tb (d + 1) 129 [vI q, vI k] h = some ([vI (if shf q k % 2 = 1 then 1 else 0)], h) := by
  refine run_of tb_X11_isInSet (Nat.le_of_ble_eq_true rfl) ?_
  show ∃ ls', am_ev (am_run am_tb (d + 0)) tX11_isInSet ([vI q, vI k], [], h) = some (1, ls', [vI (if shf q k % 2 = 1 then 1 else 0)], h)
  have hs := shf_b (q := q) (by omega) k
  by_cases c : shf q k % 2 = 1
  · rw [if_pos c]
    apply Exists.intro
    unfold tX11_isInSet
    apply t_Q
    · apply t_S
      refine x_iload_n rfl ?_
      refine x_iload_n rfl ?_
      refine x_ishr (by omega) ?_
      rw [show q / 2 ^ (k : Int).toNat = shf q k from rfl]
      refine x_iconst ?_
      refine x_iand (by omega) ?_
      refine x_iconst ?_
      exact rfl
    apply t_Q
    · apply t_K
      apply t_Qs
      apply t_Ks
      · apply t_Q
        · apply t_B
          · exact rfl
          exact t_ic_ne_f (by omega)
        apply t_B
        · refine x_iconst ?_
          exact rfl
        exact t_goto
      · decide
    apply t_B
    · exact rfl
    exact t_ireq (Or.inr (by first | exact Or.inl rfl | exact Or.inr rfl)) rfl rfl
  · rw [if_neg c]
    apply Exists.intro
    unfold tX11_isInSet
    apply t_Q
    · apply t_S
      refine x_iload_n rfl ?_
      refine x_iload_n rfl ?_
      refine x_ishr (by omega) ?_
      rw [show q / 2 ^ (k : Int).toNat = shf q k from rfl]
      refine x_iconst ?_
      refine x_iand (by omega) ?_
      refine x_iconst ?_
      exact rfl
    apply t_Q
    · apply t_Ks
      · apply t_Q
        · apply t_K
          apply t_Qs
          apply t_B
          · exact rfl
          exact t_ic_ne_t (by omega)
        apply t_S
        refine x_iconst ?_
        exact rfl
      · decide
    apply t_B
    · exact rfl
    exact t_ireq (Or.inr (by first | exact Or.inl rfl | exact Or.inr rfl)) rfl rfl
set_option maxRecDepth 10000 in
theorem s11_bad {d L : Nat} {I : Nat → Nat → Int} {R : Nat → Nat → Option Nat} {u : Int64} (hF : FixR R) : am_run am_tb (d + 1) 121 [vR 3] (LH L I R u) = some ([vI (-20002)], LH L (rc I 0) R u) := by
  refine run_of tb_X11_bad (Nat.le_of_ble_eq_true rfl) ?_
  show ∃ ls', am_ev (am_run am_tb (d + 0)) tX11_bad ([vR 3], [], (LH L I R u)) = some (1, ls', [vI (-20002)], LH L (rc I 0) R u)
  apply Exists.intro
  unfold tX11_bad
  apply t_B
  · refine x_aload_n rfl ?_
    refine x_dup rfl ?_
    refine x_gi tg_3 rfl ?_
    refine x_iconst ?_
    refine x_iadd ?_
    refine x_pi tg_3 rfl rfl ?_
    refine x_sipush ?_
    exact rfl
  exact t_ireq (Or.inl rfl) rfl rfl
set_option maxRecDepth 10000 in
theorem s11_no {d L : Nat} {I : Nat → Nat → Int} {R : Nat → Nat → Option Nat} {u : Int64} (hF : FixR R) : am_run am_tb (d + 1) 122 [vR 3] (LH L I R u) = some ([vI (-20003)], LH L (rc I 1) R u) := by
  refine run_of tb_X11_no (Nat.le_of_ble_eq_true rfl) ?_
  show ∃ ls', am_ev (am_run am_tb (d + 0)) tX11_no ([vR 3], [], (LH L I R u)) = some (1, ls', [vI (-20003)], LH L (rc I 1) R u)
  apply Exists.intro
  unfold tX11_no
  apply t_B
  · refine x_aload_n rfl ?_
    refine x_dup rfl ?_
    refine x_gi tg_3 rfl ?_
    refine x_iconst ?_
    refine x_iadd ?_
    refine x_pi tg_3 rfl rfl ?_
    refine x_sipush ?_
    exact rfl
  exact t_ireq (Or.inl rfl) rfl rfl
set_option maxRecDepth 10000 in
theorem s11_full {d L : Nat} {I : Nat → Nat → Int} {R : Nat → Nat → Option Nat} {u : Int64} (hF : FixR R) : am_run am_tb (d + 1) 123 [vR 3] (LH L I R u) = some ([vI (-20004)], LH L (rc I 2) R u) := by
  refine run_of tb_X11_full (Nat.le_of_ble_eq_true rfl) ?_
  show ∃ ls', am_ev (am_run am_tb (d + 0)) tX11_full ([vR 3], [], (LH L I R u)) = some (1, ls', [vI (-20004)], LH L (rc I 2) R u)
  apply Exists.intro
  unfold tX11_full
  apply t_B
  · refine x_aload_n rfl ?_
    refine x_dup rfl ?_
    refine x_gi tg_3 rfl ?_
    refine x_iconst ?_
    refine x_iadd ?_
    refine x_pi tg_3 rfl rfl ?_
    refine x_sipush ?_
    exact rfl
  exact t_ireq (Or.inl rfl) rfl rfl
set_option maxRecDepth 10000 in
theorem s11_sets_bad {d L : Nat} {I : Nat → Nat → Int} {R : Nat → Nat → Option Nat} {u : Int64} (hF : FixR R) {s : Int} {i : Int} {j : Int} {c : Int} (hs : inR s) (hi : inR i) (hj : inR j) (hc : inR c) (hb : ¬ ((0 ≤ s ∧ s < 6) ∧ (0 ≤ i ∧ 0 ≤ j ∧ i ≤ 12 ∧ j ≤ 12 ∧ i + j ≤ 12))) : am_run am_tb (d + 2) 93 [vR 3, vI s, vI i, vI j, vI c] (LH L I R u) = some ([vI (-20002)], LH L (rc I 0) R u) := by
  refine run_of tb_X11_sets (Nat.le_of_ble_eq_true rfl) ?_
  show ∃ ls', am_ev (am_run am_tb (d + 1)) tX11_sets ([vR 3, vI s, vI i, vI j, vI c, vU, vU], [], (LH L I R u)) = some (1, ls', [vI (-20002)], LH L (rc I 0) R u)
  by_cases c0 : 0 ≤ s ∧ s < 6
  case neg =>
    apply Exists.intro
    unfold tX11_sets
    apply t_Q
    · apply t_S
      refine x_iload_n rfl ?_
      refine x_S1i (by decide) (Nat.le_of_ble_eq_true rfl) (ret_f c0 (s11_isOperator (d := d) hs)) ?_
      exact rfl
    apply t_Qs
    apply t_Ks
    · apply t_Q
      · apply t_K
        apply t_Qs
        apply t_B
        · exact rfl
        exact t_if_eq_t (by omega)
      apply t_B
      · refine x_aload_n rfl ?_
        refine x_V1i tg_3 (Nat.le_of_ble_eq_true rfl) (s11_bad (d := d + 0) hF) ?_
        exact rfl
      exact t_ireq (Or.inl rfl) rfl rfl
    · decide
  have c1 : ¬ (0 ≤ i ∧ 0 ≤ j ∧ i ≤ 12 ∧ j ≤ 12 ∧ i + j ≤ 12) := by omega
  apply Exists.intro
  unfold tX11_sets
  apply t_Q
  · apply t_S
    refine x_iload_n rfl ?_
    refine x_S1i (by decide) (Nat.le_of_ble_eq_true rfl) (ret_t c0 (s11_isOperator (d := d) hs)) ?_
    exact rfl
  apply t_Qs
  apply t_Ks
  · apply t_Q
    · apply t_Ks
      · apply t_Q
        · apply t_B
          · exact rfl
          exact t_if_eq_f (by omega)
        apply t_B
        · refine x_iload_n rfl ?_
          refine x_iload_n rfl ?_
          refine x_S2i (by decide) (Nat.le_of_ble_eq_true rfl) (ret_f c1 (s6_isWord (d := d) hi hj)) ?_
          exact rfl
        exact t_if_ne_f (by omega)
      · decide
    apply t_B
    · refine x_aload_n rfl ?_
      refine x_V1i tg_3 (Nat.le_of_ble_eq_true rfl) (s11_bad (d := d + 0) hF) ?_
      exact rfl
    exact t_ireq (Or.inl rfl) rfl rfl
  · decide
set_option maxRecDepth 10000 in
theorem s11_at_bad {d L : Nat} {I : Nat → Nat → Int} {R : Nat → Nat → Option Nat} {u : Int64} (hF : FixR R) {s : Int} {i : Int} {j : Int} (hs : inR s) (hi : inR i) (hj : inR j) (hb : ¬ ((0 ≤ s ∧ s < 6) ∧ (0 ≤ i ∧ 0 ≤ j ∧ i ≤ 12 ∧ j ≤ 12 ∧ i + j ≤ 12))) : am_run am_tb (d + 2) 94 [vR 3, vI s, vI i, vI j] (LH L I R u) = some ([vI (-20002)], LH L (rc I 0) R u) := by
  refine run_of tb_X11_at (Nat.le_of_ble_eq_true rfl) ?_
  show ∃ ls', am_ev (am_run am_tb (d + 1)) tX11_at ([vR 3, vI s, vI i, vI j], [], (LH L I R u)) = some (1, ls', [vI (-20002)], LH L (rc I 0) R u)
  by_cases c0 : 0 ≤ s ∧ s < 6
  case neg =>
    apply Exists.intro
    unfold tX11_at
    apply t_Q
    · apply t_S
      refine x_iload_n rfl ?_
      refine x_S1i (by decide) (Nat.le_of_ble_eq_true rfl) (ret_f c0 (s11_isOperator (d := d) hs)) ?_
      exact rfl
    apply t_Qs
    apply t_Ks
    · apply t_Q
      · apply t_K
        apply t_Qs
        apply t_B
        · exact rfl
        exact t_if_eq_t (by omega)
      apply t_B
      · refine x_aload_n rfl ?_
        refine x_V1i tg_3 (Nat.le_of_ble_eq_true rfl) (s11_bad (d := d + 0) hF) ?_
        exact rfl
      exact t_ireq (Or.inl rfl) rfl rfl
    · decide
  have c1 : ¬ (0 ≤ i ∧ 0 ≤ j ∧ i ≤ 12 ∧ j ≤ 12 ∧ i + j ≤ 12) := by omega
  apply Exists.intro
  unfold tX11_at
  apply t_Q
  · apply t_S
    refine x_iload_n rfl ?_
    refine x_S1i (by decide) (Nat.le_of_ble_eq_true rfl) (ret_t c0 (s11_isOperator (d := d) hs)) ?_
    exact rfl
  apply t_Qs
  apply t_Ks
  · apply t_Q
    · apply t_Ks
      · apply t_Q
        · apply t_B
          · exact rfl
          exact t_if_eq_f (by omega)
        apply t_B
        · refine x_iload_n rfl ?_
          refine x_iload_n rfl ?_
          refine x_S2i (by decide) (Nat.le_of_ble_eq_true rfl) (ret_f c1 (s6_isWord (d := d) hi hj)) ?_
          exact rfl
        exact t_if_ne_f (by omega)
      · decide
    apply t_B
    · refine x_aload_n rfl ?_
      refine x_V1i tg_3 (Nat.le_of_ble_eq_true rfl) (s11_bad (d := d + 0) hF) ?_
      exact rfl
    exact t_ireq (Or.inl rfl) rfl rfl
  · decide
set_option maxRecDepth 10000 in
theorem s11_sums_bad {d L : Nat} {I : Nat → Nat → Int} {R : Nat → Nat → Option Nat} {u : Int64} (hF : FixR R) {s : Int} {t : Int} {a : Int} {w : Int} {b : Int} (hs : inR s) (ht : inR t) (ha : inR a) (hw : inR w) (hb : inR b) (hb : ¬ ((0 ≤ s ∧ s < 6) ∧ (0 ≤ t ∧ t < 6) ∧ (0 ≤ w ∧ w < 6))) : am_run am_tb (d + 2) 95 [vR 3, vI s, vI t, vI a, vI w, vI b] (LH L I R u) = some ([vI (-20002)], LH L (rc I 0) R u) := by
  refine run_of tb_X11_sums (Nat.le_of_ble_eq_true rfl) ?_
  show ∃ ls', am_ev (am_run am_tb (d + 1)) tX11_sums ([vR 3, vI s, vI t, vI a, vI w, vI b], [], (LH L I R u)) = some (1, ls', [vI (-20002)], LH L (rc I 0) R u)
  by_cases c0 : 0 ≤ s ∧ s < 6
  case neg =>
    apply Exists.intro
    unfold tX11_sums
    apply t_Q
    · apply t_S
      refine x_iload_n rfl ?_
      refine x_S1i (by decide) (Nat.le_of_ble_eq_true rfl) (ret_f c0 (s11_isOperator (d := d) hs)) ?_
      exact rfl
    apply t_Qs
    apply t_Ks
    · apply t_Q
      · apply t_K
        apply t_Qs
        apply t_B
        · exact rfl
        exact t_if_eq_t (by omega)
      apply t_B
      · refine x_aload_n rfl ?_
        refine x_V1i tg_3 (Nat.le_of_ble_eq_true rfl) (s11_bad (d := d + 0) hF) ?_
        exact rfl
      exact t_ireq (Or.inl rfl) rfl rfl
    · decide
  by_cases c1 : 0 ≤ t ∧ t < 6
  case neg =>
    apply Exists.intro
    unfold tX11_sums
    apply t_Q
    · apply t_S
      refine x_iload_n rfl ?_
      refine x_S1i (by decide) (Nat.le_of_ble_eq_true rfl) (ret_t c0 (s11_isOperator (d := d) hs)) ?_
      exact rfl
    apply t_Qs
    apply t_Ks
    · apply t_Q
      · apply t_K
        apply t_Q
        · apply t_B
          · exact rfl
          exact t_if_eq_f (by omega)
        apply t_Qs
        apply t_B
        · refine x_iload_n rfl ?_
          refine x_S1i (by decide) (Nat.le_of_ble_eq_true rfl) (ret_f c1 (s11_isOperator (d := d) ht)) ?_
          exact rfl
        exact t_if_eq_t (by omega)
      apply t_B
      · refine x_aload_n rfl ?_
        refine x_V1i tg_3 (Nat.le_of_ble_eq_true rfl) (s11_bad (d := d + 0) hF) ?_
        exact rfl
      exact t_ireq (Or.inl rfl) rfl rfl
    · decide
  have c2 : ¬ (0 ≤ w ∧ w < 6) := by omega
  apply Exists.intro
  unfold tX11_sums
  apply t_Q
  · apply t_S
    refine x_iload_n rfl ?_
    refine x_S1i (by decide) (Nat.le_of_ble_eq_true rfl) (ret_t c0 (s11_isOperator (d := d) hs)) ?_
    exact rfl
  apply t_Qs
  apply t_Ks
  · apply t_Q
    · apply t_Ks
      · apply t_Q
        · apply t_B
          · exact rfl
          exact t_if_eq_f (by omega)
        apply t_Q
        · apply t_B
          · refine x_iload_n rfl ?_
            refine x_S1i (by decide) (Nat.le_of_ble_eq_true rfl) (ret_t c1 (s11_isOperator (d := d) ht)) ?_
            exact rfl
          exact t_if_eq_f (by omega)
        apply t_B
        · refine x_iload rfl ?_
          refine x_S1i (by decide) (Nat.le_of_ble_eq_true rfl) (ret_f c2 (s11_isOperator (d := d) hw)) ?_
          exact rfl
        exact t_if_ne_f (by omega)
      · decide
    apply t_B
    · refine x_aload_n rfl ?_
      refine x_V1i tg_3 (Nat.le_of_ble_eq_true rfl) (s11_bad (d := d + 0) hF) ?_
      exact rfl
    exact t_ireq (Or.inl rfl) rfl rfl
  · decide
set_option maxRecDepth 10000 in
theorem s11_times_bad {d L : Nat} {I : Nat → Nat → Int} {R : Nat → Nat → Option Nat} {u : Int64} (hF : FixR R) {s : Int} {t : Int} {w : Int} (hs : inR s) (ht : inR t) (hw : inR w) (hb : ¬ ((0 ≤ s ∧ s < 6) ∧ (0 ≤ t ∧ t < 6) ∧ (0 ≤ w ∧ w < 6))) : am_run am_tb (d + 2) 96 [vR 3, vI s, vI t, vI w] (LH L I R u) = some ([vI (-20002)], LH L (rc I 0) R u) := by
  refine run_of tb_X11_times (Nat.le_of_ble_eq_true rfl) ?_
  show ∃ ls', am_ev (am_run am_tb (d + 1)) tX11_times ([vR 3, vI s, vI t, vI w, vU, vU], [], (LH L I R u)) = some (1, ls', [vI (-20002)], LH L (rc I 0) R u)
  by_cases c0 : 0 ≤ s ∧ s < 6
  case neg =>
    apply Exists.intro
    unfold tX11_times
    apply t_Q
    · apply t_S
      refine x_iload_n rfl ?_
      refine x_S1i (by decide) (Nat.le_of_ble_eq_true rfl) (ret_f c0 (s11_isOperator (d := d) hs)) ?_
      exact rfl
    apply t_Qs
    apply t_Ks
    · apply t_Q
      · apply t_K
        apply t_Qs
        apply t_B
        · exact rfl
        exact t_if_eq_t (by omega)
      apply t_B
      · refine x_aload_n rfl ?_
        refine x_V1i tg_3 (Nat.le_of_ble_eq_true rfl) (s11_bad (d := d + 0) hF) ?_
        exact rfl
      exact t_ireq (Or.inl rfl) rfl rfl
    · decide
  by_cases c1 : 0 ≤ t ∧ t < 6
  case neg =>
    apply Exists.intro
    unfold tX11_times
    apply t_Q
    · apply t_S
      refine x_iload_n rfl ?_
      refine x_S1i (by decide) (Nat.le_of_ble_eq_true rfl) (ret_t c0 (s11_isOperator (d := d) hs)) ?_
      exact rfl
    apply t_Qs
    apply t_Ks
    · apply t_Q
      · apply t_K
        apply t_Q
        · apply t_B
          · exact rfl
          exact t_if_eq_f (by omega)
        apply t_Qs
        apply t_B
        · refine x_iload_n rfl ?_
          refine x_S1i (by decide) (Nat.le_of_ble_eq_true rfl) (ret_f c1 (s11_isOperator (d := d) ht)) ?_
          exact rfl
        exact t_if_eq_t (by omega)
      apply t_B
      · refine x_aload_n rfl ?_
        refine x_V1i tg_3 (Nat.le_of_ble_eq_true rfl) (s11_bad (d := d + 0) hF) ?_
        exact rfl
      exact t_ireq (Or.inl rfl) rfl rfl
    · decide
  have c2 : ¬ (0 ≤ w ∧ w < 6) := by omega
  apply Exists.intro
  unfold tX11_times
  apply t_Q
  · apply t_S
    refine x_iload_n rfl ?_
    refine x_S1i (by decide) (Nat.le_of_ble_eq_true rfl) (ret_t c0 (s11_isOperator (d := d) hs)) ?_
    exact rfl
  apply t_Qs
  apply t_Ks
  · apply t_Q
    · apply t_Ks
      · apply t_Q
        · apply t_B
          · exact rfl
          exact t_if_eq_f (by omega)
        apply t_Q
        · apply t_B
          · refine x_iload_n rfl ?_
            refine x_S1i (by decide) (Nat.le_of_ble_eq_true rfl) (ret_t c1 (s11_isOperator (d := d) ht)) ?_
            exact rfl
          exact t_if_eq_f (by omega)
        apply t_B
        · refine x_iload_n rfl ?_
          refine x_S1i (by decide) (Nat.le_of_ble_eq_true rfl) (ret_f c2 (s11_isOperator (d := d) hw)) ?_
          exact rfl
        exact t_if_ne_f (by omega)
      · decide
    apply t_B
    · refine x_aload_n rfl ?_
      refine x_V1i tg_3 (Nat.le_of_ble_eq_true rfl) (s11_bad (d := d + 0) hF) ?_
      exact rfl
    exact t_ireq (Or.inl rfl) rfl rfl
  · decide
set_option maxRecDepth 10000 in
theorem s11_bracket_bad {d L : Nat} {I : Nat → Nat → Int} {R : Nat → Nat → Option Nat} {u : Int64} (hF : FixR R) {s : Int} {t : Int} {w : Int} (hs : inR s) (ht : inR t) (hw : inR w) (hb : ¬ ((0 ≤ s ∧ s < 6) ∧ (0 ≤ t ∧ t < 6) ∧ (0 ≤ w ∧ w < 6))) : am_run am_tb (d + 2) 97 [vR 3, vI s, vI t, vI w] (LH L I R u) = some ([vI (-20002)], LH L (rc I 0) R u) := by
  refine run_of tb_X11_bracket (Nat.le_of_ble_eq_true rfl) ?_
  show ∃ ls', am_ev (am_run am_tb (d + 1)) tX11_bracket ([vR 3, vI s, vI t, vI w, vU, vU], [], (LH L I R u)) = some (1, ls', [vI (-20002)], LH L (rc I 0) R u)
  by_cases c0 : 0 ≤ s ∧ s < 6
  case neg =>
    apply Exists.intro
    unfold tX11_bracket
    apply t_Q
    · apply t_S
      refine x_iload_n rfl ?_
      refine x_S1i (by decide) (Nat.le_of_ble_eq_true rfl) (ret_f c0 (s11_isOperator (d := d) hs)) ?_
      exact rfl
    apply t_Qs
    apply t_Ks
    · apply t_Q
      · apply t_K
        apply t_Qs
        apply t_B
        · exact rfl
        exact t_if_eq_t (by omega)
      apply t_B
      · refine x_aload_n rfl ?_
        refine x_V1i tg_3 (Nat.le_of_ble_eq_true rfl) (s11_bad (d := d + 0) hF) ?_
        exact rfl
      exact t_ireq (Or.inl rfl) rfl rfl
    · decide
  by_cases c1 : 0 ≤ t ∧ t < 6
  case neg =>
    apply Exists.intro
    unfold tX11_bracket
    apply t_Q
    · apply t_S
      refine x_iload_n rfl ?_
      refine x_S1i (by decide) (Nat.le_of_ble_eq_true rfl) (ret_t c0 (s11_isOperator (d := d) hs)) ?_
      exact rfl
    apply t_Qs
    apply t_Ks
    · apply t_Q
      · apply t_K
        apply t_Q
        · apply t_B
          · exact rfl
          exact t_if_eq_f (by omega)
        apply t_Qs
        apply t_B
        · refine x_iload_n rfl ?_
          refine x_S1i (by decide) (Nat.le_of_ble_eq_true rfl) (ret_f c1 (s11_isOperator (d := d) ht)) ?_
          exact rfl
        exact t_if_eq_t (by omega)
      apply t_B
      · refine x_aload_n rfl ?_
        refine x_V1i tg_3 (Nat.le_of_ble_eq_true rfl) (s11_bad (d := d + 0) hF) ?_
        exact rfl
      exact t_ireq (Or.inl rfl) rfl rfl
    · decide
  have c2 : ¬ (0 ≤ w ∧ w < 6) := by omega
  apply Exists.intro
  unfold tX11_bracket
  apply t_Q
  · apply t_S
    refine x_iload_n rfl ?_
    refine x_S1i (by decide) (Nat.le_of_ble_eq_true rfl) (ret_t c0 (s11_isOperator (d := d) hs)) ?_
    exact rfl
  apply t_Qs
  apply t_Ks
  · apply t_Q
    · apply t_Ks
      · apply t_Q
        · apply t_B
          · exact rfl
          exact t_if_eq_f (by omega)
        apply t_Q
        · apply t_B
          · refine x_iload_n rfl ?_
            refine x_S1i (by decide) (Nat.le_of_ble_eq_true rfl) (ret_t c1 (s11_isOperator (d := d) ht)) ?_
            exact rfl
          exact t_if_eq_f (by omega)
        apply t_B
        · refine x_iload_n rfl ?_
          refine x_S1i (by decide) (Nat.le_of_ble_eq_true rfl) (ret_f c2 (s11_isOperator (d := d) hw)) ?_
          exact rfl
        exact t_if_ne_f (by omega)
      · decide
    apply t_B
    · refine x_aload_n rfl ?_
      refine x_V1i tg_3 (Nat.le_of_ble_eq_true rfl) (s11_bad (d := d + 0) hF) ?_
      exact rfl
    exact t_ireq (Or.inl rfl) rfl rfl
  · decide
set_option maxRecDepth 10000 in
theorem s11_power_bad {d L : Nat} {I : Nat → Nat → Int} {R : Nat → Nat → Option Nat} {u : Int64} (hF : FixR R) {s : Int} {t : Int} {n : Int} (hs : inR s) (ht : inR t) (hn : inR n) (hb : ¬ ((0 ≤ s ∧ s < 6) ∧ (0 ≤ t ∧ t < 6) ∧ (0 ≤ n) ∧ (n ≤ 12))) : am_run am_tb (d + 2) 98 [vR 3, vI s, vI t, vI n] (LH L I R u) = some ([vI (-20002)], LH L (rc I 0) R u) := by
  refine run_of tb_X11_power (Nat.le_of_ble_eq_true rfl) ?_
  show ∃ ls', am_ev (am_run am_tb (d + 1)) tX11_power ([vR 3, vI s, vI t, vI n, vU], [], (LH L I R u)) = some (1, ls', [vI (-20002)], LH L (rc I 0) R u)
  by_cases c0 : 0 ≤ s ∧ s < 6
  case neg =>
    apply Exists.intro
    unfold tX11_power
    apply t_Q
    · apply t_S
      refine x_iload_n rfl ?_
      refine x_S1i (by decide) (Nat.le_of_ble_eq_true rfl) (ret_f c0 (s11_isOperator (d := d) hs)) ?_
      exact rfl
    apply t_Qs
    apply t_Ks
    · apply t_Q
      · apply t_K
        apply t_Qs
        apply t_B
        · exact rfl
        exact t_if_eq_t (by omega)
      apply t_B
      · refine x_aload_n rfl ?_
        refine x_V1i tg_3 (Nat.le_of_ble_eq_true rfl) (s11_bad (d := d + 0) hF) ?_
        exact rfl
      exact t_ireq (Or.inl rfl) rfl rfl
    · decide
  by_cases c1 : 0 ≤ t ∧ t < 6
  case neg =>
    apply Exists.intro
    unfold tX11_power
    apply t_Q
    · apply t_S
      refine x_iload_n rfl ?_
      refine x_S1i (by decide) (Nat.le_of_ble_eq_true rfl) (ret_t c0 (s11_isOperator (d := d) hs)) ?_
      exact rfl
    apply t_Qs
    apply t_Ks
    · apply t_Q
      · apply t_K
        apply t_Q
        · apply t_B
          · exact rfl
          exact t_if_eq_f (by omega)
        apply t_Qs
        apply t_B
        · refine x_iload_n rfl ?_
          refine x_S1i (by decide) (Nat.le_of_ble_eq_true rfl) (ret_f c1 (s11_isOperator (d := d) ht)) ?_
          exact rfl
        exact t_if_eq_t (by omega)
      apply t_B
      · refine x_aload_n rfl ?_
        refine x_V1i tg_3 (Nat.le_of_ble_eq_true rfl) (s11_bad (d := d + 0) hF) ?_
        exact rfl
      exact t_ireq (Or.inl rfl) rfl rfl
    · decide
  by_cases c2 : 0 ≤ n
  case neg =>
    apply Exists.intro
    unfold tX11_power
    apply t_Q
    · apply t_S
      refine x_iload_n rfl ?_
      refine x_S1i (by decide) (Nat.le_of_ble_eq_true rfl) (ret_t c0 (s11_isOperator (d := d) hs)) ?_
      exact rfl
    apply t_Qs
    apply t_Ks
    · apply t_Q
      · apply t_K
        apply t_Q
        · apply t_B
          · exact rfl
          exact t_if_eq_f (by omega)
        apply t_Q
        · apply t_B
          · refine x_iload_n rfl ?_
            refine x_S1i (by decide) (Nat.le_of_ble_eq_true rfl) (ret_t c1 (s11_isOperator (d := d) ht)) ?_
            exact rfl
          exact t_if_eq_f (by omega)
        apply t_Qs
        apply t_B
        · refine x_iload_n rfl ?_
          exact rfl
        exact t_if_lt_t (by omega)
      apply t_B
      · refine x_aload_n rfl ?_
        refine x_V1i tg_3 (Nat.le_of_ble_eq_true rfl) (s11_bad (d := d + 0) hF) ?_
        exact rfl
      exact t_ireq (Or.inl rfl) rfl rfl
    · decide
  have c3 : ¬ (n ≤ 12) := by omega
  apply Exists.intro
  unfold tX11_power
  apply t_Q
  · apply t_S
    refine x_iload_n rfl ?_
    refine x_S1i (by decide) (Nat.le_of_ble_eq_true rfl) (ret_t c0 (s11_isOperator (d := d) hs)) ?_
    exact rfl
  apply t_Qs
  apply t_Ks
  · apply t_Q
    · apply t_Ks
      · apply t_Q
        · apply t_B
          · exact rfl
          exact t_if_eq_f (by omega)
        apply t_Q
        · apply t_B
          · refine x_iload_n rfl ?_
            refine x_S1i (by decide) (Nat.le_of_ble_eq_true rfl) (ret_t c1 (s11_isOperator (d := d) ht)) ?_
            exact rfl
          exact t_if_eq_f (by omega)
        apply t_Q
        · apply t_B
          · refine x_iload_n rfl ?_
            exact rfl
          exact t_if_lt_f (by omega)
        apply t_B
        · refine x_iload_n rfl ?_
          refine x_bipush ?_
          exact rfl
        exact t_ic_le_f (by omega)
      · decide
    apply t_B
    · refine x_aload_n rfl ?_
      refine x_V1i tg_3 (Nat.le_of_ble_eq_true rfl) (s11_bad (d := d + 0) hF) ?_
      exact rfl
    exact t_ireq (Or.inl rfl) rfl rfl
  · decide
set_option maxRecDepth 10000 in
theorem s11_reversed_bad {d L : Nat} {I : Nat → Nat → Int} {R : Nat → Nat → Option Nat} {u : Int64} (hF : FixR R) {s : Int} {t : Int} (hs : inR s) (ht : inR t) (hb : ¬ ((0 ≤ s ∧ s < 6) ∧ (0 ≤ t ∧ t < 6))) : am_run am_tb (d + 2) 99 [vR 3, vI s, vI t] (LH L I R u) = some ([vI (-20002)], LH L (rc I 0) R u) := by
  refine run_of tb_X11_reversed (Nat.le_of_ble_eq_true rfl) ?_
  show ∃ ls', am_ev (am_run am_tb (d + 1)) tX11_reversed ([vR 3, vI s, vI t], [], (LH L I R u)) = some (1, ls', [vI (-20002)], LH L (rc I 0) R u)
  by_cases c0 : 0 ≤ s ∧ s < 6
  case neg =>
    apply Exists.intro
    unfold tX11_reversed
    apply t_Q
    · apply t_S
      refine x_iload_n rfl ?_
      refine x_S1i (by decide) (Nat.le_of_ble_eq_true rfl) (ret_f c0 (s11_isOperator (d := d) hs)) ?_
      exact rfl
    apply t_Qs
    apply t_Ks
    · apply t_Q
      · apply t_K
        apply t_Qs
        apply t_B
        · exact rfl
        exact t_if_eq_t (by omega)
      apply t_B
      · refine x_aload_n rfl ?_
        refine x_V1i tg_3 (Nat.le_of_ble_eq_true rfl) (s11_bad (d := d + 0) hF) ?_
        exact rfl
      exact t_ireq (Or.inl rfl) rfl rfl
    · decide
  have c1 : ¬ (0 ≤ t ∧ t < 6) := by omega
  apply Exists.intro
  unfold tX11_reversed
  apply t_Q
  · apply t_S
    refine x_iload_n rfl ?_
    refine x_S1i (by decide) (Nat.le_of_ble_eq_true rfl) (ret_t c0 (s11_isOperator (d := d) hs)) ?_
    exact rfl
  apply t_Qs
  apply t_Ks
  · apply t_Q
    · apply t_Ks
      · apply t_Q
        · apply t_B
          · exact rfl
          exact t_if_eq_f (by omega)
        apply t_B
        · refine x_iload_n rfl ?_
          refine x_S1i (by decide) (Nat.le_of_ble_eq_true rfl) (ret_f c1 (s11_isOperator (d := d) ht)) ?_
          exact rfl
        exact t_if_ne_f (by omega)
      · decide
    apply t_B
    · refine x_aload_n rfl ?_
      refine x_V1i tg_3 (Nat.le_of_ble_eq_true rfl) (s11_bad (d := d + 0) hF) ?_
      exact rfl
    exact t_ireq (Or.inl rfl) rfl rfl
  · decide
set_option maxRecDepth 10000 in
theorem s11_of_bad {d L : Nat} {I : Nat → Nat → Int} {R : Nat → Nat → Option Nat} {u : Int64} (hF : FixR R) {s : Int} {q : Int} (hs : inR s) (hq : inR q) (hb : ¬ ((0 ≤ s ∧ s < 6) ∧ (0 ≤ q) ∧ (q ≤ 8))) : am_run am_tb (d + 2) 100 [vR 3, vI s, vI q] (LH L I R u) = some ([vI (-20002)], LH L (rc I 0) R u) := by
  refine run_of tb_X11_of (Nat.le_of_ble_eq_true rfl) ?_
  show ∃ ls', am_ev (am_run am_tb (d + 1)) tX11_of ([vR 3, vI s, vI q], [], (LH L I R u)) = some (1, ls', [vI (-20002)], LH L (rc I 0) R u)
  by_cases c0 : 0 ≤ s ∧ s < 6
  case neg =>
    apply Exists.intro
    unfold tX11_of
    apply t_Q
    · apply t_S
      refine x_iload_n rfl ?_
      refine x_S1i (by decide) (Nat.le_of_ble_eq_true rfl) (ret_f c0 (s11_isOperator (d := d) hs)) ?_
      exact rfl
    apply t_Qs
    apply t_Ks
    · apply t_Q
      · apply t_K
        apply t_Qs
        apply t_B
        · exact rfl
        exact t_if_eq_t (by omega)
      apply t_B
      · refine x_aload_n rfl ?_
        refine x_V1i tg_3 (Nat.le_of_ble_eq_true rfl) (s11_bad (d := d + 0) hF) ?_
        exact rfl
      exact t_ireq (Or.inl rfl) rfl rfl
    · decide
  by_cases c1 : 0 ≤ q
  case neg =>
    apply Exists.intro
    unfold tX11_of
    apply t_Q
    · apply t_S
      refine x_iload_n rfl ?_
      refine x_S1i (by decide) (Nat.le_of_ble_eq_true rfl) (ret_t c0 (s11_isOperator (d := d) hs)) ?_
      exact rfl
    apply t_Qs
    apply t_Ks
    · apply t_Q
      · apply t_K
        apply t_Q
        · apply t_B
          · exact rfl
          exact t_if_eq_f (by omega)
        apply t_Qs
        apply t_B
        · refine x_iload_n rfl ?_
          exact rfl
        exact t_if_lt_t (by omega)
      apply t_B
      · refine x_aload_n rfl ?_
        refine x_V1i tg_3 (Nat.le_of_ble_eq_true rfl) (s11_bad (d := d + 0) hF) ?_
        exact rfl
      exact t_ireq (Or.inl rfl) rfl rfl
    · decide
  have c2 : ¬ (q ≤ 8) := by omega
  apply Exists.intro
  unfold tX11_of
  apply t_Q
  · apply t_S
    refine x_iload_n rfl ?_
    refine x_S1i (by decide) (Nat.le_of_ble_eq_true rfl) (ret_t c0 (s11_isOperator (d := d) hs)) ?_
    exact rfl
  apply t_Qs
  apply t_Ks
  · apply t_Q
    · apply t_Ks
      · apply t_Q
        · apply t_B
          · exact rfl
          exact t_if_eq_f (by omega)
        apply t_Q
        · apply t_B
          · refine x_iload_n rfl ?_
            exact rfl
          exact t_if_lt_f (by omega)
        apply t_B
        · refine x_iload_n rfl ?_
          refine x_bipush ?_
          exact rfl
        exact t_ic_le_f (by omega)
      · decide
    apply t_B
    · refine x_aload_n rfl ?_
      refine x_V1i tg_3 (Nat.le_of_ble_eq_true rfl) (s11_bad (d := d + 0) hF) ?_
      exact rfl
    exact t_ireq (Or.inl rfl) rfl rfl
  · decide
set_option maxRecDepth 10000 in
theorem s11_puts_bad {d L : Nat} {I : Nat → Nat → Int} {R : Nat → Nat → Option Nat} {u : Int64} (hF : FixR R) {f : Int} {n : Int} {c : Int} (hf : inR f) (hn : inR n) (hc : inR c) (hb : ¬ ((0 ≤ f ∧ f < 2) ∧ (0 ≤ n ∧ n ≤ 30))) : am_run am_tb (d + 2) 102 [vR 3, vI f, vI n, vI c] (LH L I R u) = some ([vI (-20002)], LH L (rc I 0) R u) := by
  refine run_of tb_X11_puts (Nat.le_of_ble_eq_true rfl) ?_
  show ∃ ls', am_ev (am_run am_tb (d + 1)) tX11_puts ([vR 3, vI f, vI n, vI c, vU], [], (LH L I R u)) = some (1, ls', [vI (-20002)], LH L (rc I 0) R u)
  by_cases c0 : 0 ≤ f ∧ f < 2
  case neg =>
    apply Exists.intro
    unfold tX11_puts
    apply t_Q
    · apply t_S
      refine x_iload_n rfl ?_
      refine x_S1i (by decide) (Nat.le_of_ble_eq_true rfl) (ret_f c0 (s11_isPolynomial (d := d) hf)) ?_
      exact rfl
    apply t_Qs
    apply t_Ks
    · apply t_Q
      · apply t_K
        apply t_Qs
        apply t_B
        · exact rfl
        exact t_if_eq_t (by omega)
      apply t_B
      · refine x_aload_n rfl ?_
        refine x_V1i tg_3 (Nat.le_of_ble_eq_true rfl) (s11_bad (d := d + 0) hF) ?_
        exact rfl
      exact t_ireq (Or.inl rfl) rfl rfl
    · decide
  have c1 : ¬ (0 ≤ n ∧ n ≤ 30) := by omega
  apply Exists.intro
  unfold tX11_puts
  apply t_Q
  · apply t_S
    refine x_iload_n rfl ?_
    refine x_S1i (by decide) (Nat.le_of_ble_eq_true rfl) (ret_t c0 (s11_isPolynomial (d := d) hf)) ?_
    exact rfl
  apply t_Qs
  apply t_Ks
  · apply t_Q
    · apply t_Ks
      · apply t_Q
        · apply t_B
          · exact rfl
          exact t_if_eq_f (by omega)
        apply t_B
        · refine x_iload_n rfl ?_
          refine x_S1i (by decide) (Nat.le_of_ble_eq_true rfl) (ret_f c1 (s11_isPower (d := d) hn)) ?_
          exact rfl
        exact t_if_ne_f (by omega)
      · decide
    apply t_B
    · refine x_aload_n rfl ?_
      refine x_V1i tg_3 (Nat.le_of_ble_eq_true rfl) (s11_bad (d := d + 0) hF) ?_
      exact rfl
    exact t_ireq (Or.inl rfl) rfl rfl
  · decide
set_option maxRecDepth 10000 in
theorem s11_rate_bad {d L : Nat} {I : Nat → Nat → Int} {R : Nat → Nat → Option Nat} {u : Int64} (hF : FixR R) {f : Int} {n : Int} (hf : inR f) (hn : inR n) (hb : ¬ ((0 ≤ f ∧ f < 2) ∧ (0 ≤ n ∧ n ≤ 30))) : am_run am_tb (d + 2) 103 [vR 3, vI f, vI n] (LH L I R u) = some ([vI (-20002)], LH L (rc I 0) R u) := by
  refine run_of tb_X11_rate (Nat.le_of_ble_eq_true rfl) ?_
  show ∃ ls', am_ev (am_run am_tb (d + 1)) tX11_rate ([vR 3, vI f, vI n], [], (LH L I R u)) = some (1, ls', [vI (-20002)], LH L (rc I 0) R u)
  by_cases c0 : 0 ≤ f ∧ f < 2
  case neg =>
    apply Exists.intro
    unfold tX11_rate
    apply t_Q
    · apply t_S
      refine x_iload_n rfl ?_
      refine x_S1i (by decide) (Nat.le_of_ble_eq_true rfl) (ret_f c0 (s11_isPolynomial (d := d) hf)) ?_
      exact rfl
    apply t_Qs
    apply t_Ks
    · apply t_Q
      · apply t_K
        apply t_Qs
        apply t_B
        · exact rfl
        exact t_if_eq_t (by omega)
      apply t_B
      · refine x_aload_n rfl ?_
        refine x_V1i tg_3 (Nat.le_of_ble_eq_true rfl) (s11_bad (d := d + 0) hF) ?_
        exact rfl
      exact t_ireq (Or.inl rfl) rfl rfl
    · decide
  have c1 : ¬ (0 ≤ n ∧ n ≤ 30) := by omega
  apply Exists.intro
  unfold tX11_rate
  apply t_Q
  · apply t_S
    refine x_iload_n rfl ?_
    refine x_S1i (by decide) (Nat.le_of_ble_eq_true rfl) (ret_t c0 (s11_isPolynomial (d := d) hf)) ?_
    exact rfl
  apply t_Qs
  apply t_Ks
  · apply t_Q
    · apply t_Ks
      · apply t_Q
        · apply t_B
          · exact rfl
          exact t_if_eq_f (by omega)
        apply t_B
        · refine x_iload_n rfl ?_
          refine x_S1i (by decide) (Nat.le_of_ble_eq_true rfl) (ret_f c1 (s11_isPower (d := d) hn)) ?_
          exact rfl
        exact t_if_ne_f (by omega)
      · decide
    apply t_B
    · refine x_aload_n rfl ?_
      refine x_V1i tg_3 (Nat.le_of_ble_eq_true rfl) (s11_bad (d := d + 0) hF) ?_
      exact rfl
    exact t_ireq (Or.inl rfl) rfl rfl
  · decide
set_option maxRecDepth 10000 in
theorem s11_makes_bad {d L : Nat} {I : Nat → Nat → Int} {R : Nat → Nat → Option Nat} {u : Int64} (hF : FixR R) {g : Int} {s : Int} {f : Int} (hg : inR g) (hs : inR s) (hf : inR f) (hb : ¬ ((0 ≤ g ∧ g < 2) ∧ (0 ≤ s ∧ s < 6) ∧ (0 ≤ f ∧ f < 2))) : am_run am_tb (d + 2) 104 [vR 3, vI g, vI s, vI f] (LH L I R u) = some ([vI (-20002)], LH L (rc I 0) R u) := by
  refine run_of tb_X11_makes (Nat.le_of_ble_eq_true rfl) ?_
  show ∃ ls', am_ev (am_run am_tb (d + 1)) tX11_makes ([vR 3, vI g, vI s, vI f, vU, vU, vU], [], (LH L I R u)) = some (1, ls', [vI (-20002)], LH L (rc I 0) R u)
  by_cases c0 : 0 ≤ g ∧ g < 2
  case neg =>
    apply Exists.intro
    unfold tX11_makes
    apply t_Q
    · apply t_S
      refine x_iload_n rfl ?_
      refine x_S1i (by decide) (Nat.le_of_ble_eq_true rfl) (ret_f c0 (s11_isPolynomial (d := d) hg)) ?_
      exact rfl
    apply t_Qs
    apply t_Ks
    · apply t_Q
      · apply t_K
        apply t_Qs
        apply t_B
        · exact rfl
        exact t_if_eq_t (by omega)
      apply t_B
      · refine x_aload_n rfl ?_
        refine x_V1i tg_3 (Nat.le_of_ble_eq_true rfl) (s11_bad (d := d + 0) hF) ?_
        exact rfl
      exact t_ireq (Or.inl rfl) rfl rfl
    · decide
  by_cases c1 : 0 ≤ s ∧ s < 6
  case neg =>
    apply Exists.intro
    unfold tX11_makes
    apply t_Q
    · apply t_S
      refine x_iload_n rfl ?_
      refine x_S1i (by decide) (Nat.le_of_ble_eq_true rfl) (ret_t c0 (s11_isPolynomial (d := d) hg)) ?_
      exact rfl
    apply t_Qs
    apply t_Ks
    · apply t_Q
      · apply t_K
        apply t_Q
        · apply t_B
          · exact rfl
          exact t_if_eq_f (by omega)
        apply t_Qs
        apply t_B
        · refine x_iload_n rfl ?_
          refine x_S1i (by decide) (Nat.le_of_ble_eq_true rfl) (ret_f c1 (s11_isOperator (d := d) hs)) ?_
          exact rfl
        exact t_if_eq_t (by omega)
      apply t_B
      · refine x_aload_n rfl ?_
        refine x_V1i tg_3 (Nat.le_of_ble_eq_true rfl) (s11_bad (d := d + 0) hF) ?_
        exact rfl
      exact t_ireq (Or.inl rfl) rfl rfl
    · decide
  have c2 : ¬ (0 ≤ f ∧ f < 2) := by omega
  apply Exists.intro
  unfold tX11_makes
  apply t_Q
  · apply t_S
    refine x_iload_n rfl ?_
    refine x_S1i (by decide) (Nat.le_of_ble_eq_true rfl) (ret_t c0 (s11_isPolynomial (d := d) hg)) ?_
    exact rfl
  apply t_Qs
  apply t_Ks
  · apply t_Q
    · apply t_Ks
      · apply t_Q
        · apply t_B
          · exact rfl
          exact t_if_eq_f (by omega)
        apply t_Q
        · apply t_B
          · refine x_iload_n rfl ?_
            refine x_S1i (by decide) (Nat.le_of_ble_eq_true rfl) (ret_t c1 (s11_isOperator (d := d) hs)) ?_
            exact rfl
          exact t_if_eq_f (by omega)
        apply t_B
        · refine x_iload_n rfl ?_
          refine x_S1i (by decide) (Nat.le_of_ble_eq_true rfl) (ret_f c2 (s11_isPolynomial (d := d) hf)) ?_
          exact rfl
        exact t_if_ne_f (by omega)
      · decide
    apply t_B
    · refine x_aload_n rfl ?_
      refine x_V1i tg_3 (Nat.le_of_ble_eq_true rfl) (s11_bad (d := d + 0) hF) ?_
      exact rfl
    exact t_ireq (Or.inl rfl) rfl rfl
  · decide
set_option maxRecDepth 10000 in
theorem s11_kernel_bad {d L : Nat} {I : Nat → Nat → Int} {R : Nat → Nat → Option Nat} {u : Int64} (hF : FixR R) {s : Int} {n : Int} (hs : inR s) (hn : inR n) (hb : ¬ ((0 ≤ s ∧ s < 6) ∧ (0 ≤ n) ∧ (n ≤ 15))) : am_run am_tb (d + 2) 105 [vR 3, vI s, vI n] (LH L I R u) = some ([vI (-20002)], LH L (rc I 0) R u) := by
  refine run_of tb_X11_kernel (Nat.le_of_ble_eq_true rfl) ?_
  show ∃ ls', am_ev (am_run am_tb (d + 1)) tX11_kernel ([vR 3, vI s, vI n], [], (LH L I R u)) = some (1, ls', [vI (-20002)], LH L (rc I 0) R u)
  by_cases c0 : 0 ≤ s ∧ s < 6
  case neg =>
    apply Exists.intro
    unfold tX11_kernel
    apply t_Q
    · apply t_S
      refine x_iload_n rfl ?_
      refine x_S1i (by decide) (Nat.le_of_ble_eq_true rfl) (ret_f c0 (s11_isOperator (d := d) hs)) ?_
      exact rfl
    apply t_Qs
    apply t_Ks
    · apply t_Q
      · apply t_K
        apply t_Qs
        apply t_B
        · exact rfl
        exact t_if_eq_t (by omega)
      apply t_B
      · refine x_aload_n rfl ?_
        refine x_V1i tg_3 (Nat.le_of_ble_eq_true rfl) (s11_bad (d := d + 0) hF) ?_
        exact rfl
      exact t_ireq (Or.inl rfl) rfl rfl
    · decide
  by_cases c1 : 0 ≤ n
  case neg =>
    apply Exists.intro
    unfold tX11_kernel
    apply t_Q
    · apply t_S
      refine x_iload_n rfl ?_
      refine x_S1i (by decide) (Nat.le_of_ble_eq_true rfl) (ret_t c0 (s11_isOperator (d := d) hs)) ?_
      exact rfl
    apply t_Qs
    apply t_Ks
    · apply t_Q
      · apply t_K
        apply t_Q
        · apply t_B
          · exact rfl
          exact t_if_eq_f (by omega)
        apply t_Qs
        apply t_B
        · refine x_iload_n rfl ?_
          exact rfl
        exact t_if_lt_t (by omega)
      apply t_B
      · refine x_aload_n rfl ?_
        refine x_V1i tg_3 (Nat.le_of_ble_eq_true rfl) (s11_bad (d := d + 0) hF) ?_
        exact rfl
      exact t_ireq (Or.inl rfl) rfl rfl
    · decide
  have c2 : ¬ (n ≤ 15) := by omega
  apply Exists.intro
  unfold tX11_kernel
  apply t_Q
  · apply t_S
    refine x_iload_n rfl ?_
    refine x_S1i (by decide) (Nat.le_of_ble_eq_true rfl) (ret_t c0 (s11_isOperator (d := d) hs)) ?_
    exact rfl
  apply t_Qs
  apply t_Ks
  · apply t_Q
    · apply t_Ks
      · apply t_Q
        · apply t_B
          · exact rfl
          exact t_if_eq_f (by omega)
        apply t_Q
        · apply t_B
          · refine x_iload_n rfl ?_
            exact rfl
          exact t_if_lt_f (by omega)
        apply t_B
        · refine x_iload_n rfl ?_
          refine x_bipush ?_
          exact rfl
        exact t_ic_le_f (by omega)
      · decide
    apply t_B
    · refine x_aload_n rfl ?_
      refine x_V1i tg_3 (Nat.le_of_ble_eq_true rfl) (s11_bad (d := d + 0) hF) ?_
      exact rfl
    exact t_ireq (Or.inl rfl) rfl rfl
  · decide
set_option maxRecDepth 10000 in
theorem s11_kills_bad {d L : Nat} {I : Nat → Nat → Int} {R : Nat → Nat → Option Nat} {u : Int64} (hF : FixR R) {s : Int} {f : Int} (hs : inR s) (hf : inR f) (hb : ¬ ((0 ≤ s ∧ s < 6) ∧ (0 ≤ f ∧ f < 2))) : am_run am_tb (d + 2) 106 [vR 3, vI s, vI f] (LH L I R u) = some ([vI (-20002)], LH L (rc I 0) R u) := by
  refine run_of tb_X11_kills (Nat.le_of_ble_eq_true rfl) ?_
  show ∃ ls', am_ev (am_run am_tb (d + 1)) tX11_kills ([vR 3, vI s, vI f, vU, vU, vU], [], (LH L I R u)) = some (1, ls', [vI (-20002)], LH L (rc I 0) R u)
  by_cases c0 : 0 ≤ s ∧ s < 6
  case neg =>
    apply Exists.intro
    unfold tX11_kills
    apply t_Q
    · apply t_S
      refine x_iload_n rfl ?_
      refine x_S1i (by decide) (Nat.le_of_ble_eq_true rfl) (ret_f c0 (s11_isOperator (d := d) hs)) ?_
      exact rfl
    apply t_Qs
    apply t_Ks
    · apply t_Q
      · apply t_K
        apply t_Qs
        apply t_B
        · exact rfl
        exact t_if_eq_t (by omega)
      apply t_B
      · refine x_aload_n rfl ?_
        refine x_V1i tg_3 (Nat.le_of_ble_eq_true rfl) (s11_bad (d := d + 0) hF) ?_
        exact rfl
      exact t_ireq (Or.inl rfl) rfl rfl
    · decide
  have c1 : ¬ (0 ≤ f ∧ f < 2) := by omega
  apply Exists.intro
  unfold tX11_kills
  apply t_Q
  · apply t_S
    refine x_iload_n rfl ?_
    refine x_S1i (by decide) (Nat.le_of_ble_eq_true rfl) (ret_t c0 (s11_isOperator (d := d) hs)) ?_
    exact rfl
  apply t_Qs
  apply t_Ks
  · apply t_Q
    · apply t_Ks
      · apply t_Q
        · apply t_B
          · exact rfl
          exact t_if_eq_f (by omega)
        apply t_B
        · refine x_iload_n rfl ?_
          refine x_S1i (by decide) (Nat.le_of_ble_eq_true rfl) (ret_f c1 (s11_isPolynomial (d := d) hf)) ?_
          exact rfl
        exact t_if_ne_f (by omega)
      · decide
    apply t_B
    · refine x_aload_n rfl ?_
      refine x_V1i tg_3 (Nat.le_of_ble_eq_true rfl) (s11_bad (d := d + 0) hF) ?_
      exact rfl
    exact t_ireq (Or.inl rfl) rfl rfl
  · decide
set_option maxRecDepth 10000 in
theorem s11_rest_bad {d L : Nat} {I : Nat → Nat → Int} {R : Nat → Nat → Option Nat} {u : Int64} (hF : FixR R) {s : Int} {t : Int} {q : Int} (hs : inR s) (ht : inR t) (hq : inR q) (hb : ¬ ((0 ≤ s ∧ s < 6) ∧ (0 ≤ t ∧ t < 6) ∧ (0 < q ∧ q < 64))) : am_run am_tb (d + 2) 107 [vR 3, vI s, vI t, vI q] (LH L I R u) = some ([vI (-20002)], LH L (rc I 0) R u) := by
  refine run_of tb_X11_rest (Nat.le_of_ble_eq_true rfl) ?_
  show ∃ ls', am_ev (am_run am_tb (d + 1)) tX11_rest ([vR 3, vI s, vI t, vI q, vU], [], (LH L I R u)) = some (1, ls', [vI (-20002)], LH L (rc I 0) R u)
  by_cases c0 : 0 ≤ s ∧ s < 6
  case neg =>
    apply Exists.intro
    unfold tX11_rest
    apply t_Q
    · apply t_S
      refine x_iload_n rfl ?_
      refine x_S1i (by decide) (Nat.le_of_ble_eq_true rfl) (ret_f c0 (s11_isOperator (d := d) hs)) ?_
      exact rfl
    apply t_Qs
    apply t_Ks
    · apply t_Q
      · apply t_K
        apply t_Qs
        apply t_B
        · exact rfl
        exact t_if_eq_t (by omega)
      apply t_B
      · refine x_aload_n rfl ?_
        refine x_V1i tg_3 (Nat.le_of_ble_eq_true rfl) (s11_bad (d := d + 0) hF) ?_
        exact rfl
      exact t_ireq (Or.inl rfl) rfl rfl
    · decide
  by_cases c1 : 0 ≤ t ∧ t < 6
  case neg =>
    apply Exists.intro
    unfold tX11_rest
    apply t_Q
    · apply t_S
      refine x_iload_n rfl ?_
      refine x_S1i (by decide) (Nat.le_of_ble_eq_true rfl) (ret_t c0 (s11_isOperator (d := d) hs)) ?_
      exact rfl
    apply t_Qs
    apply t_Ks
    · apply t_Q
      · apply t_K
        apply t_Q
        · apply t_B
          · exact rfl
          exact t_if_eq_f (by omega)
        apply t_Qs
        apply t_B
        · refine x_iload_n rfl ?_
          refine x_S1i (by decide) (Nat.le_of_ble_eq_true rfl) (ret_f c1 (s11_isOperator (d := d) ht)) ?_
          exact rfl
        exact t_if_eq_t (by omega)
      apply t_B
      · refine x_aload_n rfl ?_
        refine x_V1i tg_3 (Nat.le_of_ble_eq_true rfl) (s11_bad (d := d + 0) hF) ?_
        exact rfl
      exact t_ireq (Or.inl rfl) rfl rfl
    · decide
  have c2 : ¬ (0 < q ∧ q < 64) := by omega
  apply Exists.intro
  unfold tX11_rest
  apply t_Q
  · apply t_S
    refine x_iload_n rfl ?_
    refine x_S1i (by decide) (Nat.le_of_ble_eq_true rfl) (ret_t c0 (s11_isOperator (d := d) hs)) ?_
    exact rfl
  apply t_Qs
  apply t_Ks
  · apply t_Q
    · apply t_Ks
      · apply t_Q
        · apply t_B
          · exact rfl
          exact t_if_eq_f (by omega)
        apply t_Q
        · apply t_B
          · refine x_iload_n rfl ?_
            refine x_S1i (by decide) (Nat.le_of_ble_eq_true rfl) (ret_t c1 (s11_isOperator (d := d) ht)) ?_
            exact rfl
          exact t_if_eq_f (by omega)
        apply t_B
        · refine x_iload_n rfl ?_
          refine x_S1i (by decide) (Nat.le_of_ble_eq_true rfl) (ret_f c2 (s11_isSet (d := d) hq)) ?_
          exact rfl
        exact t_if_ne_f (by omega)
      · decide
    apply t_B
    · refine x_aload_n rfl ?_
      refine x_V1i tg_3 (Nat.le_of_ble_eq_true rfl) (s11_bad (d := d + 0) hF) ?_
      exact rfl
    exact t_ireq (Or.inl rfl) rfl rfl
  · decide
set_option maxRecDepth 10000 in
theorem s11_within_bad {d L : Nat} {I : Nat → Nat → Int} {R : Nat → Nat → Option Nat} {u : Int64} (hF : FixR R) {t : Int} {q : Int} (ht : inR t) (hq : inR q) (hb : ¬ ((0 ≤ t ∧ t < 6) ∧ (0 < q ∧ q < 64))) : am_run am_tb (d + 2) 111 [vR 3, vI t, vI q] (LH L I R u) = some ([vI (-20002)], LH L (rc I 0) R u) := by
  refine run_of tb_X11_within (Nat.le_of_ble_eq_true rfl) ?_
  show ∃ ls', am_ev (am_run am_tb (d + 1)) tX11_within ([vR 3, vI t, vI q, vU, vU], [], (LH L I R u)) = some (1, ls', [vI (-20002)], LH L (rc I 0) R u)
  by_cases c0 : 0 ≤ t ∧ t < 6
  case neg =>
    apply Exists.intro
    unfold tX11_within
    apply t_Q
    · apply t_S
      refine x_iload_n rfl ?_
      refine x_S1i (by decide) (Nat.le_of_ble_eq_true rfl) (ret_f c0 (s11_isOperator (d := d) ht)) ?_
      exact rfl
    apply t_Qs
    apply t_Ks
    · apply t_Q
      · apply t_K
        apply t_Qs
        apply t_B
        · exact rfl
        exact t_if_eq_t (by omega)
      apply t_B
      · refine x_aload_n rfl ?_
        refine x_V1i tg_3 (Nat.le_of_ble_eq_true rfl) (s11_bad (d := d + 0) hF) ?_
        exact rfl
      exact t_ireq (Or.inl rfl) rfl rfl
    · decide
  have c1 : ¬ (0 < q ∧ q < 64) := by omega
  apply Exists.intro
  unfold tX11_within
  apply t_Q
  · apply t_S
    refine x_iload_n rfl ?_
    refine x_S1i (by decide) (Nat.le_of_ble_eq_true rfl) (ret_t c0 (s11_isOperator (d := d) ht)) ?_
    exact rfl
  apply t_Qs
  apply t_Ks
  · apply t_Q
    · apply t_Ks
      · apply t_Q
        · apply t_B
          · exact rfl
          exact t_if_eq_f (by omega)
        apply t_B
        · refine x_iload_n rfl ?_
          refine x_S1i (by decide) (Nat.le_of_ble_eq_true rfl) (ret_f c1 (s11_isSet (d := d) hq)) ?_
          exact rfl
        exact t_if_ne_f (by omega)
      · decide
    apply t_B
    · refine x_aload_n rfl ?_
      refine x_V1i tg_3 (Nat.le_of_ble_eq_true rfl) (s11_bad (d := d + 0) hF) ?_
      exact rfl
    exact t_ireq (Or.inl rfl) rfl rfl
  · decide
set_option maxRecDepth 10000 in
theorem s11_stairs_bad {d L : Nat} {I : Nat → Nat → Int} {R : Nat → Nat → Option Nat} {u : Int64} (hF : FixR R) {q : Int} {n : Int} (hq : inR q) (hn : inR n) (hb : ¬ ((0 < q ∧ q < 64) ∧ (0 ≤ n) ∧ (n ≤ 20))) : am_run am_tb (d + 2) 110 [vR 3, vI q, vI n] (LH L I R u) = some ([vI (-20002)], LH L (rc I 0) R u) := by
  refine run_of tb_X11_stairs (Nat.le_of_ble_eq_true rfl) ?_
  show ∃ ls', am_ev (am_run am_tb (d + 1)) tX11_stairs ([vR 3, vI q, vI n, vU, vU, vU], [], (LH L I R u)) = some (1, ls', [vI (-20002)], LH L (rc I 0) R u)
  by_cases c0 : 0 < q ∧ q < 64
  case neg =>
    apply Exists.intro
    unfold tX11_stairs
    apply t_Q
    · apply t_S
      refine x_iload_n rfl ?_
      refine x_S1i (by decide) (Nat.le_of_ble_eq_true rfl) (ret_f c0 (s11_isSet (d := d) hq)) ?_
      exact rfl
    apply t_Qs
    apply t_Ks
    · apply t_Q
      · apply t_K
        apply t_Qs
        apply t_B
        · exact rfl
        exact t_if_eq_t (by omega)
      apply t_B
      · refine x_aload_n rfl ?_
        refine x_V1i tg_3 (Nat.le_of_ble_eq_true rfl) (s11_bad (d := d + 0) hF) ?_
        exact rfl
      exact t_ireq (Or.inl rfl) rfl rfl
    · decide
  by_cases c1 : 0 ≤ n
  case neg =>
    apply Exists.intro
    unfold tX11_stairs
    apply t_Q
    · apply t_S
      refine x_iload_n rfl ?_
      refine x_S1i (by decide) (Nat.le_of_ble_eq_true rfl) (ret_t c0 (s11_isSet (d := d) hq)) ?_
      exact rfl
    apply t_Qs
    apply t_Ks
    · apply t_Q
      · apply t_K
        apply t_Q
        · apply t_B
          · exact rfl
          exact t_if_eq_f (by omega)
        apply t_Qs
        apply t_B
        · refine x_iload_n rfl ?_
          exact rfl
        exact t_if_lt_t (by omega)
      apply t_B
      · refine x_aload_n rfl ?_
        refine x_V1i tg_3 (Nat.le_of_ble_eq_true rfl) (s11_bad (d := d + 0) hF) ?_
        exact rfl
      exact t_ireq (Or.inl rfl) rfl rfl
    · decide
  have c2 : ¬ (n ≤ 20) := by omega
  apply Exists.intro
  unfold tX11_stairs
  apply t_Q
  · apply t_S
    refine x_iload_n rfl ?_
    refine x_S1i (by decide) (Nat.le_of_ble_eq_true rfl) (ret_t c0 (s11_isSet (d := d) hq)) ?_
    exact rfl
  apply t_Qs
  apply t_Ks
  · apply t_Q
    · apply t_Ks
      · apply t_Q
        · apply t_B
          · exact rfl
          exact t_if_eq_f (by omega)
        apply t_Q
        · apply t_B
          · refine x_iload_n rfl ?_
            exact rfl
          exact t_if_lt_f (by omega)
        apply t_B
        · refine x_iload_n rfl ?_
          refine x_bipush ?_
          exact rfl
        exact t_ic_le_f (by omega)
      · decide
    apply t_B
    · refine x_aload_n rfl ?_
      refine x_V1i tg_3 (Nat.le_of_ble_eq_true rfl) (s11_bad (d := d + 0) hF) ?_
      exact rfl
    exact t_ireq (Or.inl rfl) rfl rfl
  · decide
set_option maxRecDepth 10000 in
theorem s11_shown_bad {d L : Nat} {I : Nat → Nat → Int} {R : Nat → Nat → Option Nat} {u : Int64} (hF : FixR R) {s : Int} {i : Int} (hs : inR s) (hi : inR i) (hb : ¬ ((0 ≤ s ∧ s < 6) ∧ (0 ≤ i))) : am_run am_tb (d + 2) 115 [vR 3, vI s, vI i] (LH L I R u) = some ([vI (-20002)], LH L (rc I 0) R u) := by
  refine run_of tb_X11_shown (Nat.le_of_ble_eq_true rfl) ?_
  show ∃ ls', am_ev (am_run am_tb (d + 1)) tX11_shown ([vR 3, vI s, vI i], [], (LH L I R u)) = some (1, ls', [vI (-20002)], LH L (rc I 0) R u)
  by_cases c0 : 0 ≤ s ∧ s < 6
  case neg =>
    apply Exists.intro
    unfold tX11_shown
    apply t_Q
    · apply t_S
      refine x_iload_n rfl ?_
      refine x_S1i (by decide) (Nat.le_of_ble_eq_true rfl) (ret_f c0 (s11_isOperator (d := d) hs)) ?_
      exact rfl
    apply t_Qs
    apply t_Ks
    · apply t_Q
      · apply t_K
        apply t_Qs
        apply t_B
        · exact rfl
        exact t_if_eq_t (by omega)
      apply t_B
      · refine x_aload_n rfl ?_
        refine x_V1i tg_3 (Nat.le_of_ble_eq_true rfl) (s11_bad (d := d + 0) hF) ?_
        exact rfl
      exact t_ireq (Or.inl rfl) rfl rfl
    · decide
  have c1 : ¬ (0 ≤ i) := by omega
  apply Exists.intro
  unfold tX11_shown
  apply t_Q
  · apply t_S
    refine x_iload_n rfl ?_
    refine x_S1i (by decide) (Nat.le_of_ble_eq_true rfl) (ret_t c0 (s11_isOperator (d := d) hs)) ?_
    exact rfl
  apply t_Qs
  apply t_Ks
  · apply t_Q
    · apply t_Ks
      · apply t_Q
        · apply t_B
          · exact rfl
          exact t_if_eq_f (by omega)
        apply t_B
        · refine x_iload_n rfl ?_
          exact rfl
        exact t_if_ge_f (by omega)
      · decide
    apply t_B
    · refine x_aload_n rfl ?_
      refine x_V1i tg_3 (Nat.le_of_ble_eq_true rfl) (s11_bad (d := d + 0) hF) ?_
      exact rfl
    exact t_ireq (Or.inl rfl) rfl rfl
  · decide
set_option maxRecDepth 10000 in
theorem s11_reads_bad {d L : Nat} {I : Nat → Nat → Int} {R : Nat → Nat → Option Nat} {u : Int64} (hF : FixR R) {s : Int} (hs : inR s) (hb : ¬ ((0 ≤ s ∧ s < 6))) : am_run am_tb (d + 2) 114 [vR 3, vI s] (LH L I R u) = some ([vI (-20002)], LH L (rc I 0) R u) := by
  refine run_of tb_X11_reads (Nat.le_of_ble_eq_true rfl) ?_
  show ∃ ls', am_ev (am_run am_tb (d + 1)) tX11_reads ([vR 3, vI s, vU], [], (LH L I R u)) = some (1, ls', [vI (-20002)], LH L (rc I 0) R u)
  have c0 : ¬ (0 ≤ s ∧ s < 6) := by omega
  apply Exists.intro
  unfold tX11_reads
  apply t_Q
  · apply t_S
    refine x_iload_n rfl ?_
    refine x_S1i (by decide) (Nat.le_of_ble_eq_true rfl) (ret_f c0 (s11_isOperator (d := d) hs)) ?_
    exact rfl
  apply t_Qs
  apply t_Ks
  · apply t_Q
    · apply t_B
      · exact rfl
      exact t_if_ne_f (by omega)
    apply t_B
    · refine x_aload_n rfl ?_
      refine x_V1i tg_3 (Nat.le_of_ble_eq_true rfl) (s11_bad (d := d + 0) hF) ?_
      exact rfl
    exact t_ireq (Or.inl rfl) rfl rfl
  · decide
set_option maxRecDepth 10000 in
theorem s11_basis_bad {d L : Nat} {I : Nat → Nat → Int} {R : Nat → Nat → Option Nat} {u : Int64} (hF : FixR R) {q : Int} (hq : inR q) (hb : ¬ ((0 < q ∧ q < 64))) : am_run am_tb (d + 2) 108 [vR 3, vI q] (LH L I R u) = some ([vI (-20002)], LH L (rc I 0) R u) := by
  refine run_of tb_X11_basis (Nat.le_of_ble_eq_true rfl) ?_
  show ∃ ls', am_ev (am_run am_tb (d + 1)) tX11_basis ([vR 3, vI q], [], (LH L I R u)) = some (1, ls', [vI (-20002)], LH L (rc I 0) R u)
  have c0 : ¬ (0 < q ∧ q < 64) := by omega
  apply Exists.intro
  unfold tX11_basis
  apply t_Q
  · apply t_S
    refine x_iload_n rfl ?_
    refine x_S1i (by decide) (Nat.le_of_ble_eq_true rfl) (ret_f c0 (s11_isSet (d := d) hq)) ?_
    exact rfl
  apply t_Qs
  apply t_Ks
  · apply t_Q
    · apply t_B
      · exact rfl
      exact t_if_ne_f (by omega)
    apply t_B
    · refine x_aload_n rfl ?_
      refine x_V1i tg_3 (Nat.le_of_ble_eq_true rfl) (s11_bad (d := d + 0) hF) ?_
      exact rfl
    exact t_ireq (Or.inl rfl) rfl rfl
  · decide
set_option maxRecDepth 10000 in
theorem s11_type_bad {d L : Nat} {I : Nat → Nat → Int} {R : Nat → Nat → Option Nat} {u : Int64} (hF : FixR R) {c : Int} (hc : inR c) (hb : ¬ ((0 ≤ c) ∧ (c ≤ 127))) : am_run am_tb (d + 2) 112 [vR 3, vI c] (LH L I R u) = some ([vI (-20002)], LH L (rc I 0) R u) := by
  refine run_of tb_X11_type (Nat.le_of_ble_eq_true rfl) ?_
  show ∃ ls', am_ev (am_run am_tb (d + 1)) tX11_type ([vR 3, vI c], [], (LH L I R u)) = some (1, ls', [vI (-20002)], LH L (rc I 0) R u)
  by_cases c0 : 0 ≤ c
  case neg =>
    apply Exists.intro
    unfold tX11_type
    apply t_Q
    · apply t_S
      refine x_iload_n rfl ?_
      exact rfl
    apply t_Qs
    apply t_Ks
    · apply t_Q
      · apply t_K
        apply t_Qs
        apply t_B
        · exact rfl
        exact t_if_lt_t (by omega)
      apply t_B
      · refine x_aload_n rfl ?_
        refine x_V1i tg_3 (Nat.le_of_ble_eq_true rfl) (s11_bad (d := d + 0) hF) ?_
        exact rfl
      exact t_ireq (Or.inl rfl) rfl rfl
    · decide
  have c1 : ¬ (c ≤ 127) := by omega
  apply Exists.intro
  unfold tX11_type
  apply t_Q
  · apply t_S
    refine x_iload_n rfl ?_
    exact rfl
  apply t_Qs
  apply t_Ks
  · apply t_Q
    · apply t_Ks
      · apply t_Q
        · apply t_B
          · exact rfl
          exact t_if_lt_f (by omega)
        apply t_B
        · refine x_iload_n rfl ?_
          refine x_bipush ?_
          exact rfl
        exact t_ic_le_f (by omega)
      · decide
    apply t_B
    · refine x_aload_n rfl ?_
      refine x_V1i tg_3 (Nat.le_of_ble_eq_true rfl) (s11_bad (d := d + 0) hF) ?_
      exact rfl
    exact t_ireq (Or.inl rfl) rfl rfl
  · decide
set_option maxRecDepth 10000 in
theorem s11_order_bad {d L : Nat} {I : Nat → Nat → Int} {R : Nat → Nat → Option Nat} {u : Int64} (hF : FixR R) {o : Int} (ho : inR o) (hb : ¬ (o = 0 ∨ o = 1)) : am_run am_tb (d + 2) 101 [vR 3, vI o] (LH L I R u) = some ([vI (-20002)], LH L (rc I 0) R u) := by
  refine run_of tb_X11_order (Nat.le_of_ble_eq_true rfl) ?_
  show ∃ ls', am_ev (am_run am_tb (d + 1)) tX11_order ([vR 3, vI o, vU], [], (LH L I R u)) = some (1, ls', [vI (-20002)], LH L (rc I 0) R u)
  apply Exists.intro
  unfold tX11_order
  apply t_Q
  · apply t_S
    refine x_iload_n rfl ?_
    exact rfl
  apply t_Qs
  apply t_Ks
  · apply t_Q
    · apply t_B
      · exact rfl
      exact t_if_eq_f (by omega)
    apply t_Q
    · apply t_B
      · refine x_iload_n rfl ?_
        refine x_iconst ?_
        exact rfl
      exact t_ic_eq_f (by omega)
    apply t_B
    · refine x_aload_n rfl ?_
      refine x_V1i tg_3 (Nat.le_of_ble_eq_true rfl) (s11_bad (d := d) hF) ?_
      exact rfl
    exact t_ireq (Or.inl rfl) rfl rfl
  · decide
set_option maxRecDepth 10000 in
theorem s11_told_bad {d L : Nat} {I : Nat → Nat → Int} {R : Nat → Nat → Option Nat} {u : Int64} (hF : FixR R) {w : Int} (hw : inR w) (hb : ¬ (0 ≤ w ∧ w ≤ 5)) : am_run am_tb (d + 2) 117 [vR 3, vI w] (LH L I R u) = some ([vI (-20002)], LH L (rc I 0) R u) := by
  refine run_of tb_X11_told (Nat.le_of_ble_eq_true rfl) ?_
  show ∃ ls', am_ev (am_run am_tb (d + 1)) tX11_told ([vR 3, vI w], [], (LH L I R u)) = some (1, ls', [vI (-20002)], LH L (rc I 0) R u)
  apply Exists.intro
  unfold tX11_told
  apply t_Q
  · apply t_S
    refine x_iload_n rfl ?_
    exact rfl
  apply t_Q
  · apply t_K
    apply t_Qs
    apply t_Ks
    · apply t_Qs
      apply t_Ks
      · apply t_Qs
        apply t_Ks
        · apply t_Qs
          apply t_Ks
          · apply t_Qs
            apply t_Ks
            · apply t_Qs
              apply t_Ks
              · apply t_B
                · exact rfl
                exact t_swo (by omega)
              · decide
            · decide
          · decide
        · decide
      · decide
    · decide
  apply t_B
  · refine x_aload_n rfl ?_
    refine x_V1i tg_3 (Nat.le_of_ble_eq_true rfl) (s11_bad (d := d) hF) ?_
    exact rfl
  exact t_ireq (Or.inl rfl) rfl rfl
set_option maxRecDepth 10000 in
theorem s11_replace {d L : Nat} {I : Nat → Nat → Int} {R : Nat → Nat → Option Nat} {u : Int64} (hF : FixR R) {t n s : Nat} (hH : Hi I t n) (hs : s < 6) (hr : Rsc I 300) : ∃ J, am_run am_tb (d + 4) 120 [vR 3, vI s] (LH L I R u) = some ([vI (cnt (cl I 300) 496 : Nat)], LH L J R u) ∧ Cw I J t n (sopS (snow I 4) s (I 300)) := by
  obtain ⟨K, ek, k1, k2, k3, k4⟩ := s5_keep (d := d) (L := L) (u := u) hF hH.1 hH.2.1 hH.2.2.1 hH.2.2.2
  have ht := hH.2.1
  have hcp := s6_copyFrom (d := d + 2) (L := L) (u := u) (I := K) (op_st hF hs) (op_299 hF)
  have e3 : K 300 = I 300 := k4 300 (by omega) (by omega)
  have e4 : stc K (10 + 2 * s) (K 300) 300 = I 300 := by rw [stc_o (by omega)]; exact e3
  have hct := s6_countTerms (d := d + 2) (L := L) (u := u) (I := stc K (10 + 2 * s) (K 300)) (op_299 hF) (fun j hj => by rw [e4]; exact hr j hj)
  rw [cl_o e4] at hct
  refine ⟨stc K (10 + 2 * s) (K 300), ?_, Cw_k ht k1 k2 k3 k4 (fun a ha => stc_o (by omega)) ?_⟩
  · refine run_of tb_X11_replaceOperator (Nat.le_of_ble_eq_true rfl) ?_
    show ∃ ls', am_ev (am_run am_tb (d + 3)) tX11_replaceOperator ([vR 3, vI s], [], LH L I R u) = some (1, ls', [vI (cnt (cl I 300) 496 : Nat)], LH L _ R u)
    apply Exists.intro
    unfold tX11_replaceOperator
    apply t_B
    · refine x_aload_n rfl ?_
      refine x_gr tg_3 rfl (fx_3_1 hF) ?_
      refine x_aload_n rfl ?_
      refine x_gr tg_3 rfl (fx_3_0 hF) ?_
      refine x_V2v tg_21 (Nat.le_of_ble_eq_true rfl) (ek) ?_
      refine x_aload_n rfl ?_
      refine x_gr tg_3 rfl (fx_3_0 hF) ?_
      refine x_gr tg_4 rfl (fx_4_0 hF) ?_
      refine x_iload_n rfl ?_
      refine x_aald (by rw [tg_5]; decide) (ln_5 L) (by omega) (fx_op hF hs) ?_
      refine x_aload_n rfl ?_
      refine x_gr tg_3 rfl (fx_3_9 hF) ?_
      refine x_V2v (op_st hF hs).1 (Nat.le_of_ble_eq_true rfl) (hcp) ?_
      refine x_aload_n rfl ?_
      refine x_gr tg_3 rfl (fx_3_9 hF) ?_
      refine x_V1i tg_299 (Nat.le_of_ble_eq_true rfl) (hct) ?_
      exact rfl
    exact t_ireq (Or.inl rfl) rfl rfl
  · refine snow_set hs (fun j hj => ?_) (fun a h1 h2 h3 => ?_)
    · rw [stc_s hj, e3]
    · rw [stc_o h3, k4 a (by omega) (by omega)]
