/-! The reference: passes of tidies; that they end. -/
/-- monic rows, each reduced by the others -/
def Rdm (o : Int) (n : Nat) (G : Nat → Nat → Int) : Prop := ∀ r, r < n → G r (lw o (G r)) = 1 ∧ ∀ v, G r v ≠ 0 → ∀ j, j < n → j ≠ r → ¬ Dvd (lw o (G j)) v
theorem tdS_n (o : Int) (r : Nat) (s : Nat × (Nat → Nat → Int) × Int) : s.1 - 1 ≤ (tdS o r s).1 := by
  unfold tdS
  split
  · exact Nat.le_refl _
  · exact Nat.sub_le _ _
theorem tp_ok {o : Int} {m : Nat} {A : Nat → Nat → Int} {n : Nat} {G : Nat → Nat → Int} (h : Rf o m A n G) (k : Nat) (hk : k ≤ n) : Rf o m A (tdP o n G k).1 (tdP o n G k).2.1 ∧ (∀ p q, Jr o n G p q → Jr o (tdP o n G k).1 (tdP o n G k).2.1 p q) ∧ n - k ≤ (tdP o n G k).1 ∧ Wt o (tdP o n G k).1 (tdP o n G k).2.1 ≤ Wt o n G ∧ (Wt o (tdP o n G k).1 (tdP o n G k).2.1 = Wt o n G → (tdP o n G k).1 = n ∧ (∀ j, lw o ((tdP o n G k).2.1 j) = lw o (G j)) ∧ ∀ j, n - k ≤ j → j < n → (tdP o n G k).2.1 j (lw o (G j)) = 1 ∧ ∀ v, (tdP o n G k).2.1 j v ≠ 0 → ∀ i, i < n → i ≠ j → ¬ Dvd (lw o (G i)) v) := by
  induction k with
  | zero => exact ⟨h, fun p q z => z, Nat.le_refl _, Nat.le_refl _, fun _ => ⟨rfl, fun _ => rfl, fun j h1 h2 => by omega⟩⟩
  | succ k ih =>
    obtain ⟨i1, i2, i3, i4, i5⟩ := ih (by omega)
    rw [show tdP o n G (k + 1) = tdS o (n - 1 - k) (tdP o n G k) from rfl]
    generalize tdP o n G k = s at *
    obtain ⟨n', G', fl⟩ := s
    dsimp only at i1 i2 i3 i4 i5
    have hn := tdS_n o (n - 1 - k) (n', G', fl)
    dsimp only at hn
    obtain ⟨a1, a2, a3, a4⟩ := td_st (fl := fl) i1 (r := n - 1 - k) (by omega)
    generalize tdS o (n - 1 - k) (n', G', fl) = t at *
    refine ⟨a1, fun p q z => a2 p q (i2 p q z), by omega, by omega, fun e => ?_⟩
    obtain ⟨b1, b2, b3⟩ := i5 (by omega)
    obtain ⟨c1, c2, c3, c4, c5⟩ := a4 (by omega)
    subst b1
    refine ⟨c1, fun j => ?_, fun j h1 h2 => ?_⟩
    · by_cases e : j = n' - 1 - k
      · rw [e, c3]; exact b2 _
      · rw [c2 j e]; exact b2 j
    · by_cases e : j = n' - 1 - k
      · rw [e]
        rw [b2] at c4
        refine ⟨c4, fun v hv i hi hne => ?_⟩
        have := c5 v hv i hi hne
        rw [b2] at this
        exact this
      · rw [c2 j e]
        exact b3 j (by omega) h2
/-- a step that changes nothing -/
theorem td_f0 {o : Int} {n : Nat} {G : Nat → Nat → Int} {fl : Int} (hN : Rn o n G) {r : Nat} (hr : r < n) (h0 : (tdS o r (n, G, fl)).2.2 = 0) : fl ≠ 1 ∧ (tdS o r (n, G, fl)).1 = n ∧ (tdS o r (n, G, fl)).2.1 = G := by
  have hRg : Rg (nfo o n G r) := by rw [nfo_rd hN hr]; exact rem_g (hN r hr).1
  unfold tdS at *
  dsimp only at *
  generalize nfo o n G r = R at *
  by_cases c : led o R < 0
  · rw [if_pos c] at h0; exact absurd h0 (by show ¬ (1 : Int) = 0; decide)
  · rw [if_neg c] at h0 ⊢
    dsimp only at *
    by_cases c2 : fl = 1 ∨ ¬ alk (mon o R) (G r) 496 = 1
    · rw [if_pos c2] at h0; exact absurd h0 (by decide)
    · refine ⟨fun z => c2 (Or.inl z), rfl, ?_⟩
      have ha : alk (mon o R) (G r) 496 = 1 := Decidable.not_not.mp fun z => c2 (Or.inr z)
      have hv := alk_1.mp ha
      have e : mon o R = G r := by
        funext v
        by_cases c3 : v < 496
        · exact hv v c3
        · rw [(mon_g hRg c).1.2 v (by omega), (hN r hr).1.2 v (by omega)]
      rw [e]
      exact au_id
/-- a pass that changes nothing -/
theorem tp_f0 {o : Int} {m : Nat} {A : Nat → Nat → Int} {n : Nat} {G : Nat → Nat → Int} (h : Rf o m A n G) (h23 : n ≤ 23) (k : Nat) (hk : k ≤ n) (h0 : (tdP o n G k).2.2 = 0) : (tdP o n G k).1 = n ∧ (tdP o n G k).2.1 = G ∧ ∀ j, n - k ≤ j → j < n → G j (lw o (G j)) = 1 ∧ ∀ v, G j v ≠ 0 → ∀ i, i < n → i ≠ j → ¬ Dvd (lw o (G i)) v := by
  induction k with
  | zero => exact ⟨rfl, rfl, fun j h1 h2 => by omega⟩
  | succ k ih =>
    have hG : Gd o n G := ⟨h23, fun j hj => ⟨(h.1 j hj).1.1, (h.1 j hj).2⟩⟩
    have hf := (tdP_ok hG (k := k) (by omega)).2.2.2
    have hst := tp_ok h k (by omega)
    rw [show tdP o n G (k + 1) = tdS o (n - 1 - k) (tdP o n G k) from rfl] at h0 ⊢
    generalize tdP o n G k = s at *
    obtain ⟨n', G', fl⟩ := s
    dsimp only at hf hst ih
    obtain ⟨f1, f2, f3⟩ := td_f0 hst.1.1 (r := n - 1 - k) (by omega) h0
    obtain ⟨i1, i2, i3⟩ := ih (by omega) (hf.resolve_right f1)
    subst i1
    subst i2
    obtain ⟨_, _, _, a4⟩ := td_st (fl := fl) h (r := n' - 1 - k) (by omega)
    rw [f2, f3] at a4
    obtain ⟨c1, c2, c3, c4, c5⟩ := a4 rfl
    refine ⟨f2, f3, fun j h1 h2 => ?_⟩
    by_cases e : j = n' - 1 - k
    · rw [e]; exact ⟨c4, c5⟩
    · exact i3 j (by omega) h2
/-- what is reduced is its own remainder -/
theorem rem_i {o : Int} {ld : Nat → Nat} {b : Nat} {B : Nat → Nat → Int} {f : Nat → Int} (hf : Rg f) (h : ∀ v, f v ≠ 0 → ∀ k, k < b → ¬ Dvd (ld k) v) : rdC o ld b B f = f := by
  have key : ∀ t, rdI o ld b B f t = f := fun t => by
    induction t with
    | zero => rfl
    | succ t ih =>
      rw [show rdI o ld b B f (t + 1) = rdS ld b B (rdI o ld b B f t) (unr o (90 - t)) from rfl, ih]
      generalize unr o (90 - t) = w
      unfold rdS
      by_cases c : f w = 0
      · rw [if_pos c]
      · rw [if_neg c]
        unfold cnS
        refine if_neg fun ck => ?_
        have hdv := of_decide_eq_true (fnd_yes (p := fun k => decide (xw (ld k) ≤ xw w ∧ dw (ld k) ≤ dw w)) (n := b) ck)
        exact h w c _ ck hdv
  funext v
  show (if v < 91 then rdI o ld b B f 91 v else 0) = f v
  rw [key 91]
  split
  · rfl
  · exact (hf.2 v (by omega)).symm
theorem mon_i {o : Int} {f : Nat → Int} (hf : Rg f) (h1 : f (lw o f) = 1) : mon o f = f := by
  have i1 := inv_ok (v := 1) (by decide)
  rw [Int.one_mul] at i1
  funext v
  unfold mon evF
  rw [h1, md_mul (b := 1) (by rw [i1]; rfl), Int.mul_one]
  have := hf.1 v
  omega
theorem tp_c {o : Int} {n : Nat} {G : Nat → Nat → Int} (hN : Rn o n G) (hd : Rdm o n G) (k : Nat) (hk : k ≤ n) : tdP o n G k = (n, G, 0) := by
  induction k with
  | zero => rfl
  | succ k ih =>
    rw [show tdP o n G (k + 1) = tdS o (n - 1 - k) (tdP o n G k) from rfl, ih (by omega)]
    have hr : n - 1 - k < n := by omega
    generalize n - 1 - k = r at *
    obtain ⟨d1, d2⟩ := hd r hr
    have e : nfo o n G r = G r := by
      rw [nfo_rd hN hr]
      exact rem_i (hN r hr).1 (fun v hv t ht => d2 v hv _ (skp_lt ht) skp_ne)
    unfold tdS
    dsimp only
    rw [e, if_neg (hN r hr).2, mon_i (hN r hr).1 d1, if_neg (fun z => z.elim (by decide) (fun q => q (alk_1.mpr (fun _ _ => rfl)))), au_id]
/-- tidies ends -/
theorem ti_ok {o : Int} {m : Nat} {A : Nat → Nat → Int} {n : Nat} {G : Nat → Nat → Int} (h : Rf o m A n G) (k : Nat) : Rf o m A (tdI o n G k).1 (tdI o n G k).2.1 ∧ (∀ p q, Jr o n G p q → Jr o (tdI o n G k).1 (tdI o n G k).2.1 p q) := by
  induction k with
  | zero => exact ⟨h, fun _ _ z => z⟩
  | succ k ih =>
    obtain ⟨a1, a2, _⟩ := tp_ok ih.1 _ (Nat.le_refl _)
    exact ⟨a1, fun p q z => a2 p q (ih.2 p q z)⟩
theorem ti_N {o : Int} {m : Nat} {A : Nat → Nat → Int} {n : Nat} {G : Nat → Nat → Int} (h : Rf o m A n G) (h23 : n ≤ 23) (w : Nat) : ∀ k, Wt o (tdI o n G k).1 (tdI o n G k).2.1 ≤ w → ∃ N, k < N ∧ N ≤ k + w + 2 ∧ (∀ i, k < i → i < N → (tdI o n G i).2.2 = 1) ∧ (tdI o n G N).2.2 = 0 := by
  have hG : Gd o n G := ⟨h23, fun j hj => ⟨(h.1 j hj).1.1, (h.1 j hj).2⟩⟩
  have hz : ∀ k, Rdm o (tdI o n G k).1 (tdI o n G k).2.1 → (tdI o n G (k + 1)).2.2 = 0 := fun k hd => by
    show (tdP o (tdI o n G k).1 (tdI o n G k).2.1 (tdI o n G k).1).2.2 = 0
    rw [tp_c (ti_ok h k).1.1 hd _ (Nat.le_refl _)]
  have hst : ∀ k, Wt o (tdI o n G (k + 1)).1 (tdI o n G (k + 1)).2.1 ≤ Wt o (tdI o n G k).1 (tdI o n G k).2.1 ∧ (Wt o (tdI o n G (k + 1)).1 (tdI o n G (k + 1)).2.1 = Wt o (tdI o n G k).1 (tdI o n G k).2.1 → Rdm o (tdI o n G (k + 1)).1 (tdI o n G (k + 1)).2.1) := fun k => by
    obtain ⟨_, _, _, a4, a5⟩ := tp_ok (ti_ok h k).1 _ (Nat.le_refl _)
    rw [show tdI o n G (k + 1) = tdP o (tdI o n G k).1 (tdI o n G k).2.1 (tdI o n G k).1 from rfl]
    refine ⟨a4, fun e => ?_⟩
    obtain ⟨c1, c2, c3⟩ := a5 e
    intro r hr
    rw [c1] at hr
    obtain ⟨d1, d2⟩ := c3 r (by omega) hr
    refine ⟨by rw [c2]; exact d1, fun v hv j hj hne => ?_⟩
    rw [c1] at hj
    rw [c2]
    exact d2 v hv j hj hne
  induction w with
  | zero =>
    intro k hw
    obtain ⟨a1, a2⟩ := hst k
    by_cases c : (tdI o n G (k + 1)).2.2 = 0
    · exact ⟨k + 1, by omega, by omega, fun i h1 h2 => by omega, c⟩
    · have hd := a2 (by omega)
      exact ⟨k + 2, by omega, by omega, fun i h1 h2 => by
        rw [show i = k + 1 by omega]
        exact (tdI_ok hG (k + 1)).2.2.resolve_left c, hz (k + 1) hd⟩
  | succ w ih =>
    intro k hw
    obtain ⟨a1, a2⟩ := hst k
    by_cases c : (tdI o n G (k + 1)).2.2 = 0
    · exact ⟨k + 1, by omega, by omega, fun i h1 h2 => by omega, c⟩
    · have hc := (tdI_ok hG (k + 1)).2.2.resolve_left c
      by_cases e : Wt o (tdI o n G (k + 1)).1 (tdI o n G (k + 1)).2.1 = Wt o (tdI o n G k).1 (tdI o n G k).2.1
      · exact ⟨k + 2, by omega, by omega, fun i h1 h2 => by
          rw [show i = k + 1 by omega]
          exact hc, hz (k + 1) (a2 e)⟩
      · obtain ⟨N, n1, n2, n3, n4⟩ := ih (k + 1) (by omega)
        exact ⟨N, by omega, by omega, fun i h1 h2 => by
          by_cases e2 : i = k + 1
          · rw [e2]; exact hc
          · exact n3 i (by omega) h2, n4⟩
theorem td_ok {o : Int} {m : Nat} {A : Nat → Nat → Int} {n : Nat} {G : Nat → Nat → Int} (h : Rf o m A n G) (h23 : n ≤ 23) : ∃ N, TdOk o n G N ∧ Rf o m A (tdI o n G N).1 (tdI o n G N).2.1 ∧ Rdm o (tdI o n G N).1 (tdI o n G N).2.1 ∧ (tdI o n G N).1 ≤ n ∧ ∀ p q, Jr o n G p q → Jr o (tdI o n G N).1 (tdI o n G N).2.1 p q := by
  have hG : Gd o n G := ⟨h23, fun j hj => ⟨(h.1 j hj).1.1, (h.1 j hj).2⟩⟩
  obtain ⟨N, n1, n2, n3, n4⟩ := ti_N h h23 (Wt o n G) 0 (Nat.le_refl _)
  have hW : Wt o n G ≤ n * 496 := smn_b (fun k hk => rk_lt (lw_ok (h.1 k hk).2).1)
  have hW2 : n * 496 ≤ 23 * 496 := Nat.mul_le_mul_right _ h23
  refine ⟨N, ⟨by omega, fun k hk => ?_, n4⟩, (ti_ok h N).1, ?_, (tdI_ok hG N).2.1, (ti_ok h N).2⟩
  · by_cases e : k = 0
    · rw [e]; rfl
    · exact n3 k (by omega) hk
  · obtain ⟨k, rfl⟩ : ∃ k, N = k + 1 := ⟨N - 1, by omega⟩
    have hk := tdI_ok hG k
    obtain ⟨f1, f2, f3⟩ := tp_f0 (ti_ok h k).1 (by omega) _ (Nat.le_refl _) n4
    rw [show tdI o n G (k + 1) = tdP o (tdI o n G k).1 (tdI o n G k).2.1 (tdI o n G k).1 from rfl, f1, f2]
    exact fun r hr => f3 r (by omega) hr
