/-! Readers: values. -/
/-- a state at a byte that is no blank, with the class's mode -/
def OkS (T : Nat → Int) (b : Nat) (s : rdT) (m : Nat) : Prop := s.1 ≤ b ∧ skb T b s.1 = s.1 ∧ s.2.1 ≤ 8 ∧ Cor T b s.1 s.2.2.1 s.2.2.2.1 m
theorem OkS_n {T : Nat → Int} {b : Nat} {s : rdT} {m : Nat} (h : OkS T b s m) (hp : s.1 < b) : ¬ T s.1 = 32 := by
  have := skb_e (T := T) h.1
  rw [h.2.1] at this
  exact this.resolve_left (by omega)
theorem rdG_f {w : Int} {T : Nat → Int} {b : Nat} (hb : b ≤ 120) (N : Nat) : ∀ (s : rdT) (m n n' : Nat), OkS T b s m → b - s.1 ≤ N → b - s.1 < n → b - s.1 < n' → rdG w T b n s = rdG w T b n' s := by
  induction N with
  | zero =>
    intro s m n n' h h1 h2 h3
    obtain ⟨n, rfl⟩ : ∃ k, n = k + 1 := ⟨n - 1, by omega⟩
    obtain ⟨n', rfl⟩ : ∃ k, n' = k + 1 := ⟨n' - 1, by omega⟩
    have := h.1
    unfold rdG
    rw [if_neg (show ¬ s.1 < b by omega), if_neg (show ¬ s.1 < b by omega)]
  | succ N ih =>
    intro s m n n' h h1 h2 h3
    obtain ⟨n, rfl⟩ : ∃ k, n = k + 1 := ⟨n - 1, by omega⟩
    obtain ⟨n', rfl⟩ : ∃ k, n' = k + 1 := ⟨n' - 1, by omega⟩
    unfold rdG
    by_cases c : s.1 < b
    · rw [if_pos c, if_pos c]
      rcases st_ctl (w := w) hb c (OkS_n h c) h.2.2.1 h.2.2.2 with ⟨a1, a2⟩ | ⟨a1, m', a2, a3, a4, a5, a6⟩
      · rw [if_pos a1, if_pos a1]
      · rw [if_neg (by omega), if_neg (by omega)]
        obtain ⟨k1, k2⟩ := skb_le (T := T) a3
        exact ih (skS T b (stR w T b s).2.2) m' n n' ⟨k2, skb_i a3, a4, a6⟩ (by show b - skb T b (stR w T b s).2.2.1 ≤ N; omega) (by show b - skb T b (stR w T b s).2.2.1 < n; omega) (by show b - skb T b (stR w T b s).2.2.1 < n'; omega)
    · rw [if_neg c, if_neg c]
/-- the reading from a state on -/
noncomputable def rE (w : Int) (T : Nat → Int) (b : Nat) (s : rdT) : Int × Nat × rdT := rdG w T b (b - s.1 + 1) s
theorem rE_e {w : Int} {T : Nat → Int} {b : Nat} {s : rdT} (h : ¬ s.1 < b) : rE w T b s = (1, 0, s) := by
  unfold rE
  exact if_neg h
/-- a step of a text without a fault -/
theorem rE_v {w : Int} {T : Nat → Int} {b : Nat} (hb : b ≤ 120) {s : rdT} {m : Nat} (h : OkS T b s m) (hp : s.1 < b) (hv : FL T b s.1 m s.2.1 = -1) : (stR w T b s).1 = 1 ∧ s.1 < (stR w T b s).2.2.1 ∧ (stR w T b s).2.2.1 ≤ b ∧ rE w T b s = rE w T b (skS T b (stR w T b s).2.2) ∧ ∃ m', OkS T b (skS T b (stR w T b s).2.2) m' ∧ FL T b (skb T b (stR w T b s).2.2.1) m' (stR w T b s).2.2.2.1 = -1 := by
  rcases st_ctl (w := w) hb hp (OkS_n h hp) h.2.2.1 h.2.2.2 with ⟨a1, a2⟩ | ⟨a1, m', a2, a3, a4, a5, a6⟩
  · omega
  · obtain ⟨k1, k2⟩ := skb_le (T := T) a3
    have ho : OkS T b (skS T b (stR w T b s).2.2) m' := ⟨k2, skb_i a3, a4, a6⟩
    refine ⟨a1, a2, a3, ?_, m', ho, by rw [← a5]; exact hv⟩
    have e : rE w T b s = rdG w T b (b - s.1) (skS T b (stR w T b s).2.2) := by
      unfold rE
      show (if s.1 < b then (if (stR w T b s).1 = 0 then stR w T b s else rdG w T b (b - s.1) (skS T b (stR w T b s).2.2)) else (1, 0, s)) = _
      rw [if_pos hp, if_neg (by omega)]
    rw [e]
    exact rdG_f hb _ _ m' _ _ ho (Nat.le_refl _) (by show b - skb T b (stR w T b s).2.2.1 < b - s.1; omega) (by show b - skb T b (stR w T b s).2.2.1 < b - skb T b (stR w T b s).2.2.1 + 1; omega)
theorem pw_fu {w : Int} {T : Nat → Int} {b p e : Nat} {mm : Int} {mi hp : Nat → Int} {su pr : Nat → Nat → Int} {y : Nat → Int} : (pwR w T b p e mm 1 mi hp su pr y).2.2.2.2.2.2.1 = 1 := by
  unfold pwR tkU
  split
  · split
    · show (if w = 1 ∧ (1 : Int) = 0 then _ else (1 : Int)) = 1
      rw [if_neg (by omega)]
    · rfl
  · show (if w = 1 ∧ (1 : Int) = 0 then _ else (1 : Int)) = 1
    rw [if_neg (by omega)]
theorem st_fu {w : Int} {T : Nat → Int} {b : Nat} {s : rdT} (h : s.2.2.2.2.1 = 1) : (stR w T b s).2.2.2.2.2.2.1 = 1 := by
  obtain ⟨p, e, la, mm, fu, mi, hp, su, pr⟩ := s
  have h : fu = 1 := h
  subst h
  unfold stR fcR sgR
  dsimp only
  split
  · split
    · rfl
    split
    · split <;> rfl
    split
    · split
      · rfl
      · exact pw_fu
    split
    · exact pw_fu
    split
    · exact pw_fu
    · rfl
  · split
    · rfl
    split
    · rfl
    split
    · exact pw_fu
    · rfl
/-- too much stays too much -/
theorem rdG_fu {w : Int} {T : Nat → Int} {b : Nat} (n : Nat) : ∀ s : rdT, s.2.2.2.2.1 = 1 → (rdG w T b n s).2.2.2.2.2.2.1 = 1 := by
  induction n with
  | zero => intro s h; exact h
  | succ n ih =>
    intro s h
    unfold rdG
    split
    · split
      · exact st_fu h
      · exact ih _ (st_fu h)
    · exact h
theorem rE_fu {w : Int} {T : Nat → Int} {b : Nat} {s : rdT} (h : s.2.2.2.2.1 = 1) : (rE w T b s).2.2.2.2.2.2.1 = 1 := rdG_fu (b - s.1 + 1) s h
theorem one_0 : dgr one = 0 ∧ resd one := by
  refine ⟨?_, fun k _ => by unfold one; rw [au_i]; split <;> omega⟩
  have h1 : dgr one ≤ 0 := dgr_le (by decide) (fun w hw h => by
    unfold one
    refine au_n _ _ fun e => ?_
    rw [e] at h
    have : wn 0 = 0 := by have := wn_pl 0 0; exact this
    rw [this] at h
    omega)
  have h2 := dgr_ge (f := one) (w := 0) (by decide) (by show (1 : Int) ≠ 0; decide)
  have h3 : wn 0 = 0 := by have := wn_pl 0 0; exact this
  rw [h3] at h2
  omega
theorem powR_1 {y : Nat → Int} (hy : resd y) : ∀ v, v < 496 → powR y 1 v = y v := fun v hv => by
  show mul one y v = y v
  exact mul_1l hy hv
/-- the power and the product behind a base -/
theorem pw_val {T : Nat → Int} {b q e : Nat} {mm : Int} {mi hp : Nat → Int} {su pr : Nat → Nat → Int} {y g : Nat → Int} (hb : b ≤ 120) (hq : q ≤ b) (he : e ≤ 8) (hv : FL T b q 2 e = -1) (hg : Gv g) (hy : ∀ v, v < 496 → y v = g v) : ∃ n p1, pwR 1 T b q e mm 0 mi hp su pr y = (1, 0, (p1, e, 0, mm, tkU 1 0 hp e pr y n, mi, au hp e 1, su, tkQ hp e pr y n)) ∧ (fcP T b g q = none → tkU 1 0 hp e pr y n = 1) ∧ ∀ f p', fcP T b g q = some (f, p') → p' = p1 ∧ Gv f ∧ (tkU 1 0 hp e pr y n = if hp e = 1 ∧ (0 ≤ dgr (pr e) ∧ 0 ≤ dgr f ∧ 12 < dgr (pr e) + dgr f) then 1 else 0) ∧ ∀ v, v < 496 → tkQ hp e pr y n e v = if hp e = 1 then mul (pr e) f v else f v := by
  have hyd : dgr y = dgr g := dgr_c hy
  have hyr : resd y := fun k hk => by rw [hy k hk]; exact hg.1 k hk
  have gen : ∀ (n : Nat) (f : Nat → Int), ¬ 12 < (n : Int) * dgr y → (∀ v, v < 496 → powR y n v = f v) → Gv f → (tkU 1 0 hp e pr y n = if hp e = 1 ∧ (0 ≤ dgr (pr e) ∧ 0 ≤ dgr f ∧ 12 < dgr (pr e) + dgr f) then 1 else 0) ∧ ∀ v, v < 496 → tkQ hp e pr y n e v = if hp e = 1 then mul (pr e) f v else f v := fun n f h1 h2 h3 => by
    refine ⟨?_, fun v hv => ?_⟩
    · unfold tkU
      rw [if_pos ⟨rfl, rfl⟩, if_neg h1, dgr_c h2]
    · unfold tkQ
      rw [au_s]
      split
      · rw [mul_c (fun _ _ => rfl) h2]
      · exact h2 v hv
  rcases pw_ctl (w := 1) (T := T) (b := b) (p := q) (e := e) (mm := mm) (fu := 0) (mi := mi) (hp := hp) (su := su) (pr := pr) (y := y) hb hq he with ⟨h1, h2⟩ | ⟨h1, _⟩
  · omega
  by_cases c : pwc T b q
  · have c1 : skb T b q < b := c.1
    have c2 : T (skb T b q) = 94 := c.2
    by_cases ck : pwk T b q
    · have e1 : pwR 1 T b q e mm 0 mi hp su pr y = (1, 0, (pwe T b q, e, 0, mm, tkU 1 0 hp e pr y (pwn T b q), mi, au hp e 1, su, tkQ hp e pr y (pwn T b q))) := by
        unfold pwR
        rw [if_pos c, if_pos ck]
      obtain ⟨k1, k2, k3⟩ := ck
      have ec : cdg T b 2 (skb T b (skb T b q + 1)) = dgc T b (pw3 T b q) := by
        rw [cdg_dgc]
        exact Nat.min_eq_right k2
      have e2 : fcP T b g q = if dgr g < 0 ∨ dgr g * ((pwn T b q : Nat) : Int) ≤ 12 then some (powL g (pwn T b q), pwe T b q) else none := by
        unfold fcP
        rw [bt_s c1, if_pos c2, ec]
        rfl
      refine ⟨pwn T b q, pwe T b q, e1, fun z => ?_, fun f p' z => ?_⟩
      · rw [e2] at z
        by_cases cd : dgr g < 0 ∨ dgr g * ((pwn T b q : Nat) : Int) ≤ 12
        · rw [if_pos cd] at z; exact absurd z (by intro z; cases z)
        · unfold tkU
          rw [if_pos ⟨rfl, rfl⟩, if_pos (by
            rw [hyd, Int.mul_comm]
            have := fun z => cd (Or.inr z)
            omega)]
      · rw [e2] at z
        by_cases cd : dgr g < 0 ∨ dgr g * ((pwn T b q : Nat) : Int) ≤ 12
        · rw [if_pos cd] at z
          cases z
          have hb30 := dgr_b g
          have hGf : Gv (powL g (pwn T b q)) := ⟨powL_b _, powL_12 cd⟩
          have hpn : pwn T b q ≤ 12 := by
            have := fgv_b (T := T) (b := b) (p := pw3 T b q) (Nat.le_refl _)
            unfold pwn
            omega
          have hle : (pwn T b q : Int) * dgr y ≤ 12 := by
            rw [hyd]
            rcases cd with z | z
            · rw [show dgr g = -1 by omega]; omega
            · rw [Int.mul_comm]; exact z
          have hpe : ∀ v, v < 496 → powR y (pwn T b q) v = powL g (pwn T b q) v := fun v hv => by
            rw [powR_c hy]
            obtain ⟨A, hA⟩ : ∃ A : Nat, A = (max 0 (dgr g)).toNat := ⟨_, rfl⟩
            have hA2 : dgr g ≤ (A : Nat) := by omega
            have hA3 : A ≤ 12 := by have := hg.2; omega
            have hA4 : A * pwn T b q ≤ 12 := by
              by_cases z0 : dgr g < 0
              · rw [show A = 0 by omega, Nat.zero_mul]; omega
              · have z1 := cd.resolve_left z0
                have : ((A * pwn T b q : Nat) : Int) ≤ 12 := by
                  rw [Int.natCast_mul, show ((A : Nat) : Int) = dgr g by omega]; exact z1
                omega
            exact (pow_eq hg.1 hA2 (pwn T b q) (by omega) v hv).symm
          obtain ⟨g1, g2⟩ := gen (pwn T b q) (powL g (pwn T b q)) (by omega) hpe hGf
          exact ⟨rfl, hGf, g1, g2⟩
        · rw [if_neg cd] at z; exact absurd z (by intro z; cases z)
    · have e1 : (pwR 1 T b q e mm 0 mi hp su pr y).1 = 0 := by
        unfold pwR
        rw [if_pos c, if_neg ck]
      omega
  · have e1 : pwR 1 T b q e mm 0 mi hp su pr y = (1, 0, (pw1 T b q, e, 0, mm, tkU 1 0 hp e pr y 1, mi, au hp e 1, su, tkQ hp e pr y 1)) := by
      unfold pwR
      rw [if_neg c]
    have e2 : fcP T b g q = some (g, skb T b q) := by
      unfold fcP
      refine if_neg fun z => c ?_
      have := bt_t (T := T) (b := b) (p := skb T b q) (by omega)
      exact ⟨this.1, this.2.symm.trans z⟩
    have h12 := hg.2
    obtain ⟨g1, g2⟩ := gen 1 g (by rw [hyd]; omega) (fun v hv => (powR_1 hyr v hv).trans (hy v hv)) hg
    refine ⟨1, pw1 T b q, e1, fun z => ?_, fun f p' z => ?_⟩
    · rw [e2] at z; exact absurd z (by intro z; cases z)
    · rw [e2] at z
      cases z
      exact ⟨rfl, hg, g1, g2⟩
