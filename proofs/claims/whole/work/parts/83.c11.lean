/-! The class: states, their history. Written by wip/whole/gen_83.py. -/
/-- a state at an address -/
def Stx (R : Nat → Nat → Option Nat) (x : Nat) : Prop := tg x = 8 ∧ tg (x + 1) = 23 ∧ (∀ L, ln L (x + 1) = 6) ∧ tg (x + 2) = 22 ∧ (∀ L, ln L (x + 2) = 2) ∧ R x 0 = some (x + 1) ∧ R x 1 = some (x + 2) ∧ (∀ s, s < 6 → R (x + 1) s = some (x + 5 + 2 * s) ∧ Opx R (x + 5 + 2 * s) (x + 6 + 2 * s)) ∧ (∀ f, f < 2 → R (x + 2) f = some (x + 3 + f) ∧ Arx (x + 3 + f) 31)
def stb (k : Nat) : Nat := if k = 5 then 4 else 23 + 17 * k
theorem ln_of (L : Nat) {k n : Nat} (h : k ≠ 0 ∧ ly_n.getD k 0 = n) : ln L k = n := (if_neg h.1).trans h.2
theorem Stx_all : ∀ k, k < 6 → tg (stb k) = 8 ∧ tg (stb k + 1) = 23 ∧ (stb k + 1 ≠ 0 ∧ ly_n.getD (stb k + 1) 0 = 6) ∧ tg (stb k + 2) = 22 ∧ (stb k + 2 ≠ 0 ∧ ly_n.getD (stb k + 2) 0 = 2) ∧ cstf (stb k) 0 = some (stb k + 1) ∧ cstf (stb k) 1 = some (stb k + 2) := by decide +kernel
theorem Stx_ops : ∀ k, k < 6 → ∀ s, s < 6 → cstf (stb k + 1) s = some (stb k + 5 + 2 * s) ∧ tg (stb k + 5 + 2 * s) = 6 ∧ cstf (stb k + 5 + 2 * s) 0 = some (stb k + 6 + 2 * s) ∧ tg (stb k + 6 + 2 * s) = 20 ∧ (stb k + 6 + 2 * s ≠ 0 ∧ ly_n.getD (stb k + 6 + 2 * s) 0 = 91) := by decide +kernel
theorem Stx_pol : ∀ k, k < 6 → ∀ f, f < 2 → cstf (stb k + 2) f = some (stb k + 3 + f) ∧ tg (stb k + 3 + f) = 20 ∧ (stb k + 3 + f ≠ 0 ∧ ly_n.getD (stb k + 3 + f) 0 = 31) := by decide +kernel
theorem Stx_of {R : Nat → Nat → Option Nat} (hF : FixR R) {k : Nat} (hk : k < 6) : Stx R (stb k) := by
  obtain ⟨a1, a2, a3, a4, a5, a6, a7⟩ := Stx_all k hk
  refine ⟨a1, a2, fun L => ln_of L a3, a4, fun L => ln_of L a5, hF.get a6, hF.get a7, fun s hs => ?_, fun f hf => ?_⟩
  · obtain ⟨b1, b2, b3, b4, b5⟩ := Stx_ops k hk s hs
    exact ⟨hF.get b1, b2, hF.get b3, b4, fun L => ln_of L b5⟩
  · obtain ⟨b1, b2, b3⟩ := Stx_pol k hk f hf
    exact ⟨hF.get b1, b2, fun L => ln_of L b3, by decide⟩
theorem Stx_4 {R : Nat → Nat → Option Nat} (hF : FixR R) : Stx R 4 := Stx_of hF (k := 5) (by decide)
theorem Stx_h {R : Nat → Nat → Option Nat} (hF : FixR R) {k : Nat} (hk : k < 5) : Stx R (23 + 17 * k) := by
  have := Stx_of hF (k := k) (by omega)
  rw [show stb k = 23 + 17 * k from if_neg (by omega)] at this
  exact this
/-- a state as one row, as the reference has it -/
def snow (I : Nat → Nat → Int) (x j : Nat) : Int := if j < 546 then I (x + 6 + 2 * (j / 91)) (j % 91) else if j < 608 then I (x + 3 + (j - 546) / 31) ((j - 546) % 31) else I x 2
theorem snow_op {I : Nat → Nat → Int} {x s j : Nat} (hs : s < 6) (hj : j < 91) : snow I x (91 * s + j) = I (x + 6 + 2 * s) j := by
  unfold snow
  rw [if_pos (by omega), show (91 * s + j) / 91 = s by omega, show (91 * s + j) % 91 = j by omega]
theorem snow_po {I : Nat → Nat → Int} {x f n : Nat} (hf : f < 2) (hn : n < 31) : snow I x (546 + 31 * f + n) = I (x + 3 + f) n := by
  unfold snow
  rw [if_neg (by omega), if_pos (by omega), show (546 + 31 * f + n - 546) / 31 = f by omega, show (546 + 31 * f + n - 546) % 31 = n by omega]
theorem snow_or {I : Nat → Nat → Int} {x : Nat} : snow I x 608 = I x 2 := rfl
theorem snow_o {I J : Nat → Nat → Int} {x j : Nat} (h : ∀ a, x ≤ a → a < x + 17 → J a = I a) (hj : j < 609) : snow J x j = snow I x j := by
  unfold snow
  split
  · rw [h _ (by omega) (by omega)]
  · split
    · rw [h _ (by omega) (by omega)]
    · rw [h _ (by omega) (by omega)]
theorem snow_mk {I : Nat → Nat → Int} {x : Nat} {g : Nat → Int} (h1 : ∀ s j, s < 6 → j < 91 → I (x + 6 + 2 * s) j = g (91 * s + j)) (h2 : ∀ f n, f < 2 → n < 31 → I (x + 3 + f) n = g (546 + 31 * f + n)) (h3 : I x 2 = g 608) : ∀ j, j < 609 → snow I x j = g j := by
  intro j hj
  unfold snow
  split
  · rw [h1 _ _ (by omega) (by omega), show 91 * (j / 91) + j % 91 = j by omega]
  · split
    · rw [h2 _ _ (by omega) (by omega), show 546 + 31 * ((j - 546) / 31) + (j - 546) % 31 = j by omega]
    · rw [h3, show j = 608 by omega]
set_option maxRecDepth 10000 in
theorem lp8_copy1 {d L : Nat} {I : Nat → Nat → Int} {R : Nat → Nat → Option Nat} {u : Int64} {x y : Nat} (hx : Stx R x) (hy : Stx R y) (hxy : y + 17 ≤ x ∨ x + 17 ≤ y) : ∃ r, am_lp (am_ev (am_run am_tb (d + 1)) wX8_copyFrom_2) 2 am_F ([vR x, vR y, vI 0], [], LH L I R u) = some r ∧ ∃ J, r = (31, [vR x, vR y, vI 6], [], LH L J R u) ∧ (∀ t, t < 6 → ∀ j, j < 91 → J (x + 6 + 2 * t) j = I (y + 6 + 2 * t) j) ∧ ∀ a, ¬ (∃ t, t < 6 ∧ a = x + 6 + 2 * t) → J a = I a := by
  refine lp_inv (fun s z => ∃ J, z = ([vR x, vR y, vI s], [], LH L J R u) ∧ (∀ t, t < s → ∀ j, j < 91 → J (x + 6 + 2 * t) j = I (y + 6 + 2 * t) j) ∧ ∀ a, ¬ (∃ t, t < 6 ∧ a = x + 6 + 2 * t) → J a = I a) _ 6 ⟨I, rfl, fun t ht => by omega, fun a _ => rfl⟩ (ltF (by omega)) (fun s z hs hp => ?_) (fun z hp => ?_)
  · obtain ⟨J, e0, h1, h2⟩ := hp
    subst e0
    have hcp := s6_copyFrom (d := d) (L := L) (u := u) (I := J) ((hx.2.2.2.2.2.2.2.1 s (by omega)).2) ((hy.2.2.2.2.2.2.2.1 s (by omega)).2)
    refine ⟨([vR x, vR y, vI ((s + 1 : Nat) : Int)], [], LH L (stc J (x + 6 + 2 * s) (J (y + 6 + 2 * s))) R u), ?_, _, rfl, fun t ht j hj => ?_, fun a ha => ?_⟩
    · unfold wX8_copyFrom_2
      apply t_Q
      · apply t_B
        · refine x_iload_n rfl ?_
          refine x_bipush ?_
          exact rfl
        exact t_ic_ge_f (by omega)
      apply t_B
      · refine x_aload_n rfl ?_
        refine x_gr hx.1 rfl hx.2.2.2.2.2.1 ?_
        refine x_iload_n rfl ?_
        refine x_aald (by rw [hx.2.1]; decide) (hx.2.2.1 L) (by omega) ((hx.2.2.2.2.2.2.2.1 s (by omega)).1) ?_
        refine x_aload_n rfl ?_
        refine x_gr hy.1 rfl hy.2.2.2.2.2.1 ?_
        refine x_iload_n rfl ?_
        refine x_aald (by rw [hy.2.1]; decide) (hy.2.2.1 L) (by omega) ((hy.2.2.2.2.2.2.2.1 s (by omega)).1) ?_
        refine x_V2v (hx.2.2.2.2.2.2.2.1 s (by omega)).2.1 (Nat.le_of_ble_eq_true rfl) (hcp) ?_
        refine x_iinc rfl rfl ?_
        exact rfl
      exact t_goeq rfl
    · by_cases e : t = s
      · rw [e, stc_s hj, h2 _ (by rintro ⟨t, h, q⟩; omega)]
      · rw [stc_o (by omega)]; exact h1 t (by omega) j hj
    · rw [stc_o (fun q => ha ⟨s, hs, q⟩)]; exact h2 a ha
  · obtain ⟨J, e0, h1, h2⟩ := hp
    subst e0
    refine ⟨(31, [vR x, vR y, vI 6], [], LH L J R u), ?_, by show ¬ 31 = 2 + 2; decide, ⟨J, rfl, h1, h2⟩⟩
    unfold wX8_copyFrom_2
    apply t_Qs
    apply t_B
    · refine x_iload_n rfl ?_
      refine x_bipush ?_
      exact rfl
    exact t_ic_ge_t (by omega)
set_option maxRecDepth 10000 in
theorem lp8_copy2 {d L : Nat} {I : Nat → Nat → Int} {R : Nat → Nat → Option Nat} {u : Int64} {x y : Nat} (hx : Stx R x) (hy : Stx R y) (hxy : y + 17 ≤ x ∨ x + 17 ≤ y) : ∃ r, am_lp (am_ev (am_run am_tb (d + 1)) wX8_copyFrom_31) 31 am_F ([vR x, vR y, vI 0], [], LH L I R u) = some r ∧ ∃ J, r = (63, [vR x, vR y, vI 2], [], LH L J R u) ∧ (∀ t, t < 2 → ∀ j, j < 31 → J (x + 3 + t) j = I (y + 3 + t) j) ∧ ∀ a, ¬ (∃ t, t < 2 ∧ a = x + 3 + t) → J a = I a := by
  refine lp_inv (fun s z => ∃ J, z = ([vR x, vR y, vI s], [], LH L J R u) ∧ (∀ t, t < s → ∀ j, j < 31 → J (x + 3 + t) j = I (y + 3 + t) j) ∧ ∀ a, ¬ (∃ t, t < 2 ∧ a = x + 3 + t) → J a = I a) _ 2 ⟨I, rfl, fun t ht => by omega, fun a _ => rfl⟩ (ltF (by omega)) (fun s z hs hp => ?_) (fun z hp => ?_)
  · obtain ⟨J, e0, h1, h2⟩ := hp
    subst e0
    refine ⟨([vR x, vR y, vI ((s + 1 : Nat) : Int)], [], LH L (au J (x + 3 + s) (fun j => if j < 31 then J (y + 3 + s) j else J (x + 3 + s) j)) R u), ?_, _, rfl, fun t ht j hj => ?_, fun a ha => ?_⟩
    · unfold wX8_copyFrom_31
      apply t_Q
      · apply t_B
        · refine x_iload_n rfl ?_
          refine x_iconst ?_
          exact rfl
        exact t_ic_ge_f (by omega)
      apply t_B
      · refine x_aload_n rfl ?_
        refine x_gr hy.1 rfl hy.2.2.2.2.2.2.1 ?_
        refine x_iload_n rfl ?_
        refine x_aald (by rw [hy.2.2.2.1]; decide) (hy.2.2.2.2.1 L) (by omega) ((hy.2.2.2.2.2.2.2.2 s (by omega)).1) ?_
        refine x_iconst ?_
        refine x_aload_n rfl ?_
        refine x_gr hx.1 rfl hx.2.2.2.2.2.2.1 ?_
        refine x_iload_n rfl ?_
        refine x_aald (by rw [hx.2.2.2.1]; decide) (hx.2.2.2.2.1 L) (by omega) ((hx.2.2.2.2.2.2.2.2 s (by omega)).1) ?_
        refine x_iconst ?_
        refine x_bipush ?_
        refine x_acp (n := 31) ((hy.2.2.2.2.2.2.2.2 s (by omega)).2.1) ((hx.2.2.2.2.2.2.2.2 s (by omega)).2.1) (by rw [(hy.2.2.2.2.2.2.2.2 s (by omega)).2.2.1 L]; omega) (by rw [(hx.2.2.2.2.2.2.2.2 s (by omega)).2.2.1 L]; omega) (Nat.le_of_ble_eq_true rfl) ?_
        refine x_iinc rfl rfl ?_
        exact rfl
      exact t_goeq rfl
    · by_cases e : t = s
      · rw [e, au_s, if_pos hj, h2 _ (by rintro ⟨t, h, q⟩; omega)]
      · rw [au_n _ _ (by omega)]; exact h1 t (by omega) j hj
    · rw [au_n _ _ (fun q => ha ⟨s, hs, q⟩)]; exact h2 a ha
  · obtain ⟨J, e0, h1, h2⟩ := hp
    subst e0
    refine ⟨(63, [vR x, vR y, vI 2], [], LH L J R u), ?_, by show ¬ 63 = 31 + 2; decide, ⟨J, rfl, h1, h2⟩⟩
    unfold wX8_copyFrom_31
    apply t_Qs
    apply t_B
    · refine x_iload_n rfl ?_
      refine x_iconst ?_
      exact rfl
    exact t_ic_ge_t (by omega)
set_option maxRecDepth 10000 in
theorem s8_copyFrom {d L : Nat} {I : Nat → Nat → Int} {R : Nat → Nat → Option Nat} {u : Int64} {x y : Nat} (hx : Stx R x) (hy : Stx R y) (hxy : y + 17 ≤ x ∨ x + 17 ≤ y) : ∃ J, am_run am_tb (d + 2) 74 [vR x, vR y] (LH L I R u) = some ([], LH L J R u) ∧ (∀ j, j < 609 → snow J x j = snow I y j) ∧ ∀ a, ¬ (x ≤ a ∧ a < x + 17) → J a = I a := by
  obtain ⟨r, l1, J, er, j1, j2⟩ := lp8_copy1 (d := d) (L := L) (I := I) (u := u) hx hy hxy
  subst er
  obtain ⟨r, l2, K, er, k1, k2⟩ := lp8_copy2 (d := d) (L := L) (I := J) (u := u) hx hy hxy
  subst er
  refine ⟨au K x (au (K x) 2 (K y 2)), ?_, ?_, ?_⟩
  · refine run_of tb_X8_copyFrom (Nat.le_of_ble_eq_true rfl) ?_
    show ∃ ls', am_ev (am_run am_tb (d + 1)) tX8_copyFrom ([vR x, vR y, vU], [], LH L I R u) = some (1, ls', [], LH L (au K x (au (K x) 2 (K y 2))) R u)
    apply Exists.intro
    unfold tX8_copyFrom
    apply t_Q
    · apply t_S
      refine x_iconst ?_
      refine x_istore_n rfl ?_
      exact rfl
    apply t_Q
    · apply t_K
      apply t_W
      exact l1
    apply t_Q
    · apply t_S
      refine x_iconst ?_
      refine x_istore_n rfl ?_
      exact rfl
    apply t_Q
    · apply t_K
      apply t_W
      exact l2
    apply t_B
    · refine x_aload_n rfl ?_
      refine x_aload_n rfl ?_
      refine x_gi hy.1 rfl ?_
      refine x_pi hx.1 rfl rfl ?_
      exact rfl
    exact rfl
  · refine snow_mk (fun s j hs hj => ?_) (fun f n hf hn => ?_) ?_
    · rw [snow_op hs hj, au_n _ _ (by omega), k2 _ (by rintro ⟨t, h, q⟩; omega)]; exact j1 s hs j hj
    · rw [snow_po hf hn, au_n _ _ (by omega), k1 f hf n hn]
      rw [j2 _ (by rintro ⟨t, h, q⟩; omega)]
    · rw [snow_or, au_s, au_s, k2 _ (by rintro ⟨t, h, q⟩; omega), j2 _ (by rintro ⟨t, h, q⟩; omega)]
  · intro a ha
    rw [au_n _ _ (by omega), k2 _ (by rintro ⟨t, h, q⟩; omega), j2 _ (by rintro ⟨t, h, q⟩; omega)]
theorem fx_hs {R : Nat → Nat → Option Nat} (hF : FixR R) {q : Nat} (h : q < 5) : R 22 q = some (23 + 17 * q) := hF.get ((by decide +kernel : ∀ q, q < 5 → cstf 22 q = some (23 + 17 * q)) q h)
set_option maxRecDepth 10000 in
theorem s5_keep {d L : Nat} {I : Nat → Nat → Int} {R : Nat → Nat → Option Nat} {u : Int64} (hF : FixR R) {t n : Nat} (ht : I 21 1 = t) (ht5 : t < 5) (hn : I 21 2 = n) (hn5 : n ≤ 5) : ∃ J, am_run am_tb (d + 3) 42 [vR 21, vR 4] (LH L I R u) = some ([], LH L J R u) ∧ (∀ j, j < 609 → snow J (23 + 17 * t) j = snow I 4 j) ∧ J 21 1 = ((t + 1) % 5 : Nat) ∧ J 21 2 = (min (n + 1) 5 : Nat) ∧ ∀ a, ¬ (23 + 17 * t ≤ a ∧ a < 23 + 17 * t + 17) → a ≠ 21 → J a = I a := by
  obtain ⟨J, e, h1, h2⟩ := s8_copyFrom (d := d) (L := L) (I := I) (u := u) (Stx_h hF ht5) (Stx_4 hF) (by omega)
  have h21 := h2 21 (by omega)
  refine ⟨au (au J 21 (au (J 21) 1 ((t + 1) % 5 : Nat))) 21 (au (au J 21 (au (J 21) 1 ((t + 1) % 5 : Nat)) 21) 2 (min (n + 1) 5 : Nat)), ?_, fun j hj => ?_, ?_, ?_, fun a ha hb => ?_⟩
  · refine run_of tb_X5_keep (Nat.le_of_ble_eq_true rfl) ?_
    show ∃ ls', am_ev (am_run am_tb (d + 2)) tX5_keep ([vR 21, vR 4], [], LH L I R u) = some (1, ls', [], LH L _ R u)
    apply Exists.intro
    unfold tX5_keep
    apply t_B
    · refine x_aload_n rfl ?_
      refine x_gr tg_21 rfl (fx_21_0 hF) ?_
      refine x_aload_n rfl ?_
      refine x_giv tg_21 rfl (show _ = (t : Int) from ht) ?_
      refine x_aald (by rw [tg_22]; decide) (ln_22 L) (by omega) (fx_hs hF ht5) ?_
      refine x_aload_n rfl ?_
      refine x_V2v (Stx_h hF (k := t) (by omega)).1 (Nat.le_of_ble_eq_true rfl) (e) ?_
      refine x_aload_n rfl ?_
      refine x_aload_n rfl ?_
      refine x_giv tg_21 rfl (show _ = (t : Int) from (congrFun h21 1).trans ht) ?_
      refine x_iconst ?_
      refine x_iadd ?_
      refine x_iconst ?_
      refine x_irem0 (by omega) ?_
      rw [show ((t : Int) + 1) % 5 = (((t + 1) % 5 : Nat) : Int) by omega]
      refine x_pi tg_21 rfl rfl ?_
      refine x_aload_n rfl ?_
      refine x_aload_n rfl ?_
      refine x_giv tg_21 rfl (show _ = (n : Int) from (congrFun h21 2).trans hn) ?_
      refine x_iconst ?_
      refine x_iadd ?_
      refine x_iconst ?_
      refine x_S2i (by decide) (Nat.le_of_ble_eq_true rfl) ((sj_min (d := d + 1) (by omega) (by omega)).trans (by rw [show min ((n : Int) + 1) 5 = ((min (n + 1) 5 : Nat) : Int) by omega])) ?_
      refine x_pi tg_21 rfl rfl ?_
      exact rfl
    exact rfl
  · rw [← h1 j hj]
    exact snow_o (fun a h3 h4 => by rw [au_n _ _ (by omega), au_n _ _ (by omega)]) hj
  · rw [au_s, au_n _ _ (by decide), au_s, au_s]
  · rw [au_s, au_s]
  · rw [au_n _ _ hb, au_n _ _ hb]; exact h2 a ha
set_option maxRecDepth 10000 in
theorem s5_restore {d L : Nat} {I : Nat → Nat → Int} {R : Nat → Nat → Option Nat} {u : Int64} (hF : FixR R) {t n : Nat} (ht : I 21 1 = t) (ht5 : t < 5) (hn : I 21 2 = n) (hn5 : n ≤ 5) (hn0 : 0 < n) : ∃ J, am_run am_tb (d + 3) 43 [vR 21, vR 4] (LH L I R u) = some ([], LH L J R u) ∧ (∀ j, j < 609 → snow J 4 j = snow I (23 + 17 * ((t + 4) % 5)) j) ∧ J 21 1 = ((t + 4) % 5 : Nat) ∧ J 21 2 = (n - 1 : Nat) ∧ ∀ a, ¬ (4 ≤ a ∧ a < 21) → a ≠ 21 → J a = I a := by
  obtain ⟨J, e, h1, h2⟩ := s8_copyFrom (d := d) (L := L) (I := au (au I 21 (au (I 21) 1 ((t + 4) % 5 : Nat))) 21 (au (au I 21 (au (I 21) 1 ((t + 4) % 5 : Nat)) 21) 2 (n - 1 : Nat))) (u := u) (Stx_4 hF) (Stx_h hF (k := (t + 4) % 5) (by omega)) (by omega)
  refine ⟨J, ?_, fun j hj => ?_, ?_, ?_, fun a ha hb => ?_⟩
  · refine run_of tb_X5_restore (Nat.le_of_ble_eq_true rfl) ?_
    show ∃ ls', am_ev (am_run am_tb (d + 2)) tX5_restore ([vR 21, vR 4], [], LH L I R u) = some (1, ls', [], LH L J R u)
    apply Exists.intro
    unfold tX5_restore
    apply t_Q
    · apply t_S
      refine x_aload_n rfl ?_
      refine x_giv tg_21 rfl (show _ = (n : Int) from hn) ?_
      exact rfl
    apply t_Q
    · apply t_Ks
      · apply t_Q
        · apply t_B
          · exact rfl
          exact t_if_le_f (by omega)
        apply t_S
        refine x_aload_n rfl ?_
        refine x_aload_n rfl ?_
        refine x_giv tg_21 rfl (show _ = (t : Int) from ht) ?_
        refine x_iconst ?_
        refine x_iadd ?_
        refine x_iconst ?_
        refine x_isub ?_
        refine x_iconst ?_
        refine x_irem0 (by omega) ?_
        rw [show ((t : Int) + 5 - 1) % 5 = (((t + 4) % 5 : Nat) : Int) by omega]
        refine x_pi tg_21 rfl rfl ?_
        refine x_aload_n rfl ?_
        refine x_dup rfl ?_
        refine x_giv tg_21 rfl (show _ = (n : Int) from (by rw [au_s, au_n _ _ (by decide)]; exact hn)) ?_
        refine x_iconst ?_
        refine x_isub ?_
        rw [show ((n : Int) - 1) = ((n - 1 : Nat) : Int) by omega]
        refine x_pi tg_21 rfl rfl ?_
        refine x_aload_n rfl ?_
        refine x_aload_n rfl ?_
        refine x_gr tg_21 rfl (fx_21_0 hF) ?_
        refine x_aload_n rfl ?_
        refine x_giv tg_21 rfl (show _ = (((t + 4) % 5 : Nat) : Int) from (by rw [au_s, au_n _ _ (by decide), au_s, au_s])) ?_
        refine x_aald (by rw [tg_22]; decide) (ln_22 L) (by omega) (fx_hs hF (q := (t + 4) % 5) (by omega)) ?_
        refine x_V2v tg_4 (Nat.le_of_ble_eq_true rfl) (e) ?_
        exact rfl
      · decide
    apply t_B
    · exact rfl
    exact rfl
  · rw [h1 j hj]
    exact snow_o (fun a h3 h4 => by rw [au_n _ _ (by omega), au_n _ _ (by omega)]) hj
  · rw [h2 21 (by omega), au_s, au_n _ _ (by decide), au_s, au_s]
  · rw [h2 21 (by omega), au_s, au_s]
  · rw [h2 a ha, au_n _ _ hb, au_n _ _ hb]
