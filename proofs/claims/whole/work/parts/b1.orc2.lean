/-! The completion's steps keep its invariant. -/
theorem lin_c {T : (Nat → Int) → Prop} (hT : Lin T) {f g h : Nat → Int} {c : Int} (hf : T f) (hg : T g) (e : ∀ w, h w % 10007 = (f w + c * g w) % 10007) : T h := hT.1 _ _ (fun w => (e w).symm) (hT.2.2 f g c hf hg)
/-- the first waiting row is 0 by the kept ones -/
theorem pc_0 {o : Int} {m : Nat} {A : Nat → Nat → Int} {s : C6} (h : Pc o m A s) (hω : 1 ≤ s.2.1) (hz : led o (abR o s) < 0) : Pc o m A (abP o s) ∧ muc (abP o s) < muc s := by
  have eP : abP o s = (s.1, s.2.1 - 1, fun k => au s.2.2.1 s.1 (abR o s) (swp s.1 (s.1 + s.2.1 - 1) k), s.2.2.2) := if_pos hz
  rw [eP]
  obtain ⟨hR, hK, hS, hD, hA, hI⟩ := h
  have hl := kp_Rl hR hK
  obtain ⟨κ, ω, F, lx, ld, st⟩ := s
  unfold Kp Sv crs Dg muc at *
  unfold abR at *
  dsimp only at *
  have hfκ := hR κ (by omega)
  have z0 := led_z (rem_g (o := o) (ld := fun k => pl (lx k) (ld k)) (b := κ) (B := F) hfκ) hz
  have hsp := fun (r : Nat) (hr : ∀ v, F κ v % 10007 ≠ 0 → rk o v < r) => (rem_s hl hfκ hr).1
  generalize rdC o (fun k => pl (lx k) (ld k)) κ F (F κ) = R at *
  obtain ⟨H, hH⟩ : ∃ H : Nat → Nat → Int, H = fun k => au F κ R (swp κ (κ + ω - 1) k) := ⟨_, rfl⟩
  rw [← hH]
  have e1 : ∀ k, k < κ → H k = F k := fun k hk => by
    rw [hH]
    show au F κ R (swp κ (κ + ω - 1) k) = _
    unfold swp
    rw [if_neg (by omega), if_neg (by omega), au_n _ _ (by omega)]
  have e2 : ∀ k, k < κ + (ω - 1) → ∃ t, t < κ + ω ∧ H k = F t := fun k hk => by
    rw [hH]
    show ∃ t, t < κ + ω ∧ au F κ R (swp κ (κ + ω - 1) k) = F t
    unfold swp
    by_cases c : k = κ
    · rw [if_pos c, au_n _ _ (by omega)]; exact ⟨_, by omega, rfl⟩
    · rw [if_neg c, if_neg (by omega), au_n _ _ c]; exact ⟨k, by omega, rfl⟩
  have e3 : ∀ t, t < κ + ω → t ≠ κ → ∃ k, k < κ + (ω - 1) ∧ H k = F t := fun t ht hne => by
    rw [hH]
    show ∃ k, k < κ + (ω - 1) ∧ au F κ R (swp κ (κ + ω - 1) k) = F t
    by_cases c : t = κ + ω - 1
    · refine ⟨κ, by omega, ?_⟩
      unfold swp
      rw [if_pos rfl, au_n _ _ (by omega), c]
    · refine ⟨t, by omega, ?_⟩
      unfold swp
      rw [if_neg hne, if_neg c, au_n _ _ hne]
  have hw : ∀ g l, Rw κ F (fun k => pl (lx k) (ld k)) g l → Gs o (κ + (ω - 1)) H g l := fun g l ⟨k, hk, eg, el⟩ => ⟨k, by omega, by rw [e1 k hk]; exact eg, by rw [e1 k hk, el]; exact (hl k hk).2⟩
  have gen : ∀ g l, Gs o (κ + ω) F g l → Vr o (Gs o (κ + (ω - 1)) H) (rk o l + 1) g := fun g l ⟨k, hk, eg, el⟩ => by
    by_cases c : k = κ
    · subst c
      subst eg
      have hb := rg_Bd hfκ el
      have h1 := Vr_m (s := rk o l + 1) hw (Nat.le_refl _) (hsp (rk o l + 1) (fun v hv => by have := hb v hv; omega))
      refine (Vr_L o _ _).1 _ _ (fun w => ?_) h1
      unfold sbr
      rw [z0 w]
      refine congrArg (· % 10007) ?_
      omega
    · obtain ⟨t, ht, e⟩ := e3 k hk c
      exact Vr_1 ⟨t, ht, by rw [e]; exact eg, by rw [e]; exact el⟩
  refine ⟨⟨fun k hk => ?_, ⟨fun k hk => ?_, hK.2⟩, fun k hk hs => ?_, ?_, fun k hk => ?_, fun k hk => ?_⟩, ?_⟩
  · obtain ⟨t, ht, e⟩ := e2 k hk
    show Rg (H k)
    rw [e]; exact hR t ht
  · show led o (H k) = _ ∧ H k _ = 1
    rw [e1 k hk]; exact hK.1 k hk
  · show Vr o _ _ (sbr (Wo 0 _ (H k)) (Wo _ 0 (H (k + 1))))
    rw [e1 k (by omega), e1 (k + 1) hk]
    exact Vr_sub gen (hS k hk hs)
  · rcases hD with ⟨h0, hw⟩ | ⟨X, Y, hJ, hk3, hw⟩
    · refine Or.inl ⟨h0, fun k hk w hne => ?_⟩
      obtain ⟨t, ht, e⟩ := e2 k hk
      have hne : H k w ≠ 0 := hne
      rw [e] at hne
      exact hw t ht w hne
    · refine Or.inr ⟨X, Y, hJ, hk3, fun k hk w hne => ?_⟩
      obtain ⟨t, ht, e⟩ := e2 k hk
      have hne : H k w ≠ 0 := hne
      rw [e] at hne
      exact hw t ht w hne
  · exact Idl_sub (fun g l hg => ⟨_, gen g l hg⟩) (hA k hk)
  · obtain ⟨t, ht, e⟩ := e2 k hk
    show Idl o _ (H k)
    rw [e]; exact hI t ht
  · have e : cnP (fun w => Jw (κ, ω - 1, H, lx, ld, st) (xw w) (dw w)) 28 = cnP (fun w => Jw (κ, ω, F, lx, ld, st) (xw w) (dw w)) 28 := rfl
    show 100 * (28 - cnP (fun w => Jw (κ, ω - 1, H, lx, ld, st) (xw w) (dw w)) 28) + 10 * cnP (fun k => k + 1 < κ ∧ st k = 0) 6 + (ω - 1) < _
    rw [e]
    omega
/-- something of it is left -/
theorem pc_2 {o : Int} {m : Nat} {A : Nat → Nat → Int} {s : C6} (h : Pc o m A s) (hω : 1 ≤ s.2.1) (h6 : s.1 + s.2.1 ≤ 6) (hz : ¬ led o (abR o s) < 0) : Pc o m A (abP o s) ∧ muc (abP o s) < muc s := by
  have eP : abP o s = adP (xw (lw o (abR o s))) (dw (lw o (abR o s))) (dsL (xw (lw o (abR o s))) (dw (lw o (abR o s))) s.1 (s.1, s.2.1, au s.2.2.1 s.1 (abM o (abR o s)), s.2.2.2)) := if_neg hz
  rw [eP]
  obtain ⟨hR, hK, hS, hD, hA, hI⟩ := h
  have hl := kp_Rl hR hK
  have hfκ := hR s.1 (by omega)
  have hRg : Rg (abR o s) := rem_g hfκ
  have hsp := fun (r : Nat) (hr : ∀ v, s.2.2.1 s.1 v % 10007 ≠ 0 → rk o v < r) => (rem_s hl hfκ hr).1
  have hred := fun (v : Nat) (hv : abR o s v ≠ 0) (k : Nat) (hk : k < s.1) => rem_r hl hfκ hv hk
  have hrw := fun (v : Nat) (hv : abR o s v ≠ 0) => rem_w hl hfκ hv
  obtain ⟨m1, m2, m3, m4, m5⟩ := abM_g hRg hz
  obtain ⟨w1, w2, w3, w4⟩ := lw_ok hz
  have hRr : abR o s = rdC o (fun k => pl (s.2.2.2.1 k) (s.2.2.2.2.1 k)) s.1 s.2.2.1 (s.2.2.1 s.1) := rfl
  rw [← hRr] at hsp
  generalize abR o s = R at *
  generalize abM o R = M at *
  generalize lw o R = w at *
  have hw := hrw w w3
  have hnd : ∀ k, k < s.1 → ¬ (s.2.2.2.1 k ≤ xw w ∧ s.2.2.2.2.1 k ≤ dw w) := fun k hk z => hred w w3 k hk ⟨by rw [xw_pl]; exact z.1, by rw [dw_pl]; exact z.2⟩
  obtain ⟨H, hH⟩ : ∃ H, H = au s.2.2.1 s.1 M := ⟨_, rfl⟩
  have e1 : ∀ k, k ≠ s.1 → H k = s.2.2.1 k := fun k hk => by rw [hH, au_n _ _ hk]
  have e2 : H s.1 = M := by rw [hH, au_s]
  have hHw : ∀ g l, Rw s.1 s.2.2.1 (fun k => pl (s.2.2.2.1 k) (s.2.2.2.2.1 k)) g l → Gs o (s.1 + s.2.1) H g l := fun g l ⟨k, hk, eg, el⟩ => ⟨k, by omega, by rw [e1 k (by omega)]; exact eg, by rw [e1 k (by omega), el]; exact (hl k hk).2⟩
  have hMg : Gs o (s.1 + s.2.1) H M w := ⟨s.1, by omega, e2.symm, by rw [e2]; exact m3⟩
  have gen : ∀ g l, Gs o (s.1 + s.2.1) s.2.2.1 g l → Vr o (Gs o (s.1 + s.2.1) H) (rk o l + 1) g := fun g l ⟨k, hk, eg, el⟩ => by
    by_cases c : k = s.1
    · rw [c] at eg el
      have hb := rg_Bd hfκ el
      have h1 := Vr_m (s := rk o l + 1) hHw (Nat.le_refl _) (hsp (rk o l + 1) (fun v hv => by have := hb v hv; omega))
      obtain ⟨u, hu, _, hu2, _⟩ := hw
      have el : u = l := by omega
      have h2 := Vr_m (o := o) (s := rk o l + 1) (fun _ _ z => z) (by rw [← el]; omega) (Vr_1 hMg)
      refine lin_c (Vr_L o _ _) (c := R w) h1 h2 (fun v => ?_)
      have := m5 v
      rw [eg]
      unfold sbr
      generalize R w * M v = x at *
      omega
    · exact Vr_1 ⟨k, hk, by rw [e1 k c]; exact eg, by rw [e1 k c]; exact el⟩
  have hK1 : Kp o (s.1, s.2.1, H, s.2.2.2) := ⟨fun k hk => by
    show led o (H k) = _ ∧ H k _ = 1
    rw [e1 k (Nat.ne_of_lt hk)]; exact hK.1 k hk, hK.2⟩
  have hS1 : Sv o (Gs o (s.1 + s.2.1) H) (s.1, s.2.1, H, s.2.2.2) := fun k hk hs => by
    have hk : k + 1 < s.1 := hk
    show Vr o _ _ (sbr (Wo 0 _ (H k)) (Wo _ 0 (H (k + 1))))
    rw [e1 k (by omega), e1 (k + 1) (by omega)]
    exact Vr_sub gen (hS k hk hs)
  rw [← hH]
  obtain ⟨d1, d2, d3, d4, d5, d6, d7, d8, d9⟩ := ds_ok (o := o) (G := Gs o (s.1 + s.2.1) H) (i := xw w) (j := dw w) s.1 (s.1, s.2.1, H, s.2.2.2) (Nat.le_refl _) hω hK1 hS1 hnd (fun m z1 z2 => absurd z2 (Nat.not_lt_of_le z1))
  rw [show (s.1, s.2.1, H, s.2.2.2).2.2.1 (s.1, s.2.1, H, s.2.2.2).1 = H s.1 from rfl, e2] at d7
  generalize dsL (xw w) (dw w) s.1 (s.1, s.2.1, H, s.2.2.2) = t at *
  obtain ⟨a1, a2, a3, a4⟩ := ad_ok (o := o) (G := Gs o (s.1 + s.2.1) H) (s := t) (i := xw w) (j := dw w) d2 d3 d4 (by rw [d7, pl_w]; exact m3) (by rw [d7, pl_w]; exact m2) d5 d6
  have d1 : t.1 + t.2.1 = s.1 + s.2.1 := d1
  have d8 : Pm (s.1 + s.2.1) H t.2.2.1 := d8
  have hn : (adP (xw w) (dw w) t).1 + (adP (xw w) (dw w) t).2.1 = s.1 + s.2.1 := by
    show t.1 + 1 + (t.2.1 - 1) = _
    omega
  have hω2 : (adP (xw w) (dw w) t).2.1 = t.2.1 - 1 := rfl
  rw [d1] at a3
  have hPm := Pm_t d8 a3
  have hJ : ∀ p q, (Jw s p q ∨ (xw w ≤ p ∧ dw w ≤ q)) ↔ Jw (adP (xw w) (dw w) t) p q := fun p q => by
    rw [a4 p q]
    exact d9 p q
  generalize adP (xw w) (dw w) t = u at *
  have rows : ∀ k, k < s.1 + s.2.1 → u.2.2.1 k = M ∨ ∃ k', k' < s.1 + s.2.1 ∧ u.2.2.1 k = s.2.2.1 k' := fun k hk => by
    obtain ⟨k', hk', e⟩ := hPm.2 k hk
    by_cases c : k' = s.1
    · rw [c, e2] at e; exact Or.inl e
    · rw [e1 k' c] at e; exact Or.inr ⟨k', hk', e⟩
  have hMw : ∀ v, M v ≠ 0 → ∃ u, s.2.2.1 s.1 u ≠ 0 ∧ wn v ≤ wn u := fun v hv => by
    obtain ⟨u, _, h2, _, h4⟩ := hrw v (m4 v hv)
    exact ⟨u, h2, h4⟩
  have hwd : ∃ u, s.2.2.1 s.1 u ≠ 0 ∧ wn w ≤ wn u := hMw w (by rw [m2]; decide)
  have hxd : xw w + dw w = wn w := by have := wn_pl (xw w) (dw w); rw [pl_w] at this; omega
  have hMI : Idl o (Sc m A) M := by
    obtain ⟨u, hu, _⟩ := hw
    have hb := rg_Bd hfκ hu
    have h1 : Idl o (Sc m A) (sbr (s.2.2.1 s.1) R) := Idl_sub (fun g l ⟨k, hk, eg, _⟩ => by rw [eg]; exact hI k (by omega)) ⟨_, hsp (rk o u + 1) (fun v hv => by have := hb v hv; omega)⟩
    have h2 : Idl o (Sc m A) R := lin_c (Idl_L o _) (c := -1) (hI s.1 (by omega)) h1 (fun v => by
      unfold sbr
      refine congrArg (· % 10007) ?_
      omega)
    refine lin_c (Idl_L o _) (c := inv (R w)) (Idl_L o _).2.1 h2 (fun v => ?_)
    have b := hRg.1 w
    have i1 := inv_ok (v := R w) (by omega)
    have := md_mul (c := inv (R w)) (m5 v)
    rw [Int.zero_add, this, ← Int.mul_assoc, Int.mul_comm (inv (R w)) (R w), Int.mul_comm (R w * inv (R w)) (M v), md_mul (b := 1) (by rw [i1]; rfl), Int.mul_one]
  refine ⟨⟨fun k hk => ?_, a1, ?_, ?_, fun k hk => ?_, fun k hk => ?_⟩, ?_⟩
  · rw [hn] at hk
    rcases rows k hk with e | ⟨k', hk', e⟩
    · rw [e]; exact m1
    · rw [e]; exact hR k' hk'
  · rw [hn]
    exact fun k hk hs => Vr_m (fun g l hg => Gs_p hPm hg) (Nat.le_refl _) (a2 k hk hs)
  · obtain ⟨v, hv, hwv⟩ := hwd
    rcases hD with ⟨h0, hw3⟩ | ⟨X, Y, hJn, ⟨k, hk, hk3⟩, hw3⟩
    · have h3 := hw3 s.1 (by omega) v hv
      have hJ1 : Jnv (Jw u) (xw w) (dw w) := Jnv_c (Jnv_1 (xw w) (dw w)) (fun p q => by
        rw [← hJ p q]
        exact ⟨Or.inr, fun z => z.elim (fun ⟨k, hk, _⟩ => absurd hk (by omega)) id⟩)
      obtain ⟨k, hk, hk1, hk2⟩ := (hJ (xw w) (dw w)).mp (Or.inr ⟨Nat.le_refl _, Nat.le_refl _⟩)
      refine Or.inr ⟨xw w, dw w, hJ1, ⟨k, hk, by omega⟩, fun k hk x hx => ?_⟩
      rw [hn] at hk
      rcases rows k hk with e | ⟨k', hk', e⟩
      · rw [e] at hx
        obtain ⟨y, hy, hy2⟩ := hMw x hx
        have := hw3 s.1 (by omega) y hy
        omega
      · rw [e] at hx
        have := hw3 k' hk' x hx
        omega
    · have h3 := hw3 s.1 (by omega) v hv
      have hJ1 := Jnv_c (Jnv_add hJn (a := xw w) (b := dw w) (by omega)) hJ
      obtain ⟨k', hk', hk1, hk2⟩ := (hJ _ _).mp (Or.inl ⟨k, hk, Nat.le_refl _, Nat.le_refl _⟩)
      refine Or.inr ⟨_, _, hJ1, ⟨k', hk', by omega⟩, fun k hk x hx => ?_⟩
      rw [hn] at hk
      rcases rows k hk with e | ⟨k', hk', e⟩
      · rw [e] at hx
        obtain ⟨y, hy, hy2⟩ := hMw x hx
        have := hw3 s.1 (by omega) y hy
        omega
      · rw [e] at hx
        have := hw3 k' hk' x hx
        omega
  · rw [hn]
    exact Idl_sub (fun g l hg => ⟨_, Vr_m (fun g l hg => Gs_p hPm hg) (Nat.le_refl _) (gen g l hg)⟩) (hA k hk)
  · rw [hn] at hk
    rcases rows k hk with e | ⟨k', hk', e⟩
    · rw [e]; exact hMI
    · rw [e]; exact hI k' hk'
  · have hw28 : w < 28 := by
      have h7 : wn w ≤ 6 := by
        obtain ⟨v, hv, hwv⟩ := hwd
        rcases hD with ⟨h0, hw3⟩ | ⟨X, Y, _, _, hw3⟩
        · have := hw3 s.1 (by omega) v hv; omega
        · have := hw3 s.1 (by omega) v hv; omega
      have := pl_lt (i := xw w) (j := dw w) (n := 6) (by omega)
      rw [pl_w] at this
      exact this
    have c1 := cnP_or (p := fun w => Jw s (xw w) (dw w)) hw28 (fun ⟨k, hk, z⟩ => hnd k hk z)
    have c2 : cnP (fun k => Jw s (xw k) (dw k) ∨ k = w) 28 ≤ cnP (fun w => Jw u (xw w) (dw w)) 28 := cnP_m (fun k _ z => (hJ _ _).mp (z.imp id (fun e => by rw [e]; exact ⟨Nat.le_refl _, Nat.le_refl _⟩)))
    have c3 := cnP_b (p := fun w => Jw u (xw w) (dw w)) (n := 28)
    have c4 := cnP_b (p := fun k => k + 1 < u.1 ∧ u.2.2.2.2.2 k = 0) (n := 6)
    unfold muc
    omega
