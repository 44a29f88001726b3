/-! The completion's crosses; its end. -/
/-- the cross is 0 from the least common multiple on -/
theorem crs_z {o : Int} {f g : Nat → Int} {x y x' y' : Nat} (hx : x' ≤ x) (hy : y ≤ y') (h1 : Bd o f (pl x y)) (h2 : Bd o g (pl x' y')) (e1 : f (pl x y) % 10007 = 1) (e2 : g (pl x' y') % 10007 = 1) {v : Nat} (hv : rk o (pl x y') ≤ rk o v) : sbr (Wo 0 (y' - y) f) (Wo (x - x') 0 g) v % 10007 = 0 := by
  have b1 := Bd_W h1 0 (y' - y)
  have b2 := Bd_W h2 (x - x') 0
  have c1 := Wo_ld h1 0 (y' - y)
  have c2 := Wo_ld h2 (x - x') 0
  rw [show 0 + x = x by omega, show y' - y + y = y' by omega] at b1 c1
  rw [show 0 + y' = y' by omega, show x - x' + x' = x by omega] at b2 c2
  show (Wo 0 (y' - y) f v + -1 * Wo (x - x') 0 g v) % 10007 = 0
  by_cases c : v = pl x y'
  · rw [← c] at c1 c2; omega
  · have hlt : rk o (pl x y') < rk o v := Nat.lt_of_le_of_ne hv fun z => c (rk_inj z).symm
    have z1 := Bd_z b1 hlt
    have z2 := Bd_z b2 hlt
    omega
theorem crC_g {a b : Nat} {f g : Nat → Int} : Rg (crC a b f g) := ⟨fun v => by
  show 0 ≤ (if v < 91 then (cor 0 a f 496 v % 10007 + 10006 * cor b 0 g 496 v) % 10007 else 0) ∧ (if v < 91 then (cor 0 a f 496 v % 10007 + 10006 * cor b 0 g 496 v) % 10007 else 0) < 10007
  split <;> omega, fun j hj => if_neg (by omega)⟩
theorem kp_bd {o : Int} {s : C6} (hR : ∀ k, k < s.1 + s.2.1 → Rg (s.2.2.1 k)) (hK : Kp o s) {k : Nat} (hk : k < s.1) : Bd o (s.2.2.1 k) (pl (s.2.2.2.1 k) (s.2.2.2.2.1 k)) ∧ s.2.2.1 k (pl (s.2.2.2.1 k) (s.2.2.2.2.1 k)) % 10007 = 1 := ⟨rg_Bd (hR k (by omega)) (hK.1 k hk).1, by rw [(hK.1 k hk).2]; rfl⟩
theorem bd_S {o : Int} {f : Nat → Int} {x y M : Nat} (hf : Rg f) (h : Bd o f (pl x y)) (hM : x + y < M) (h13 : M ≤ 13) : Sup M f := Sup_wn h13 (fun w _ hne => by
  have := rk_le_wn (h w ((rg_ne hf).mpr hne))
  rw [wn_pl] at this
  omega) hf.2
theorem pc_3 {o : Int} {m : Nat} {A : Nat → Nat → Int} {s : C6} (h : Pc o m A s) (hω : s.2.1 = 0) {k : Nat} (hk : k + 1 < s.1) (h0 : s.2.2.2.2.2 k = 0) : Pc o m A (crP k s) ∧ muc (crP k s) < muc s := by
  have h4 := kp_4 h.2.1 h.2.2.2.1
  obtain ⟨hR, hK, hS, hD, hA, hI⟩ := h
  rcases hD with ⟨z, _⟩ | ⟨X, Y, hJn, hk3, hw3⟩
  · omega
  have h6 := kp_lcm hK hJn hk
  obtain ⟨s1, s2⟩ := hK.2 k hk
  obtain ⟨b1, e1⟩ := kp_bd hR hK (show k < s.1 by omega)
  obtain ⟨b2, e2⟩ := kp_bd hR hK hk
  have hcw := cr_W (a := s.2.2.2.2.1 (k + 1) - s.2.2.2.2.1 k) (b := s.2.2.2.1 k - s.2.2.2.1 (k + 1)) (by omega) (by omega) (bd_S (hR k (by omega)) b1 (by omega) (by omega)) (bd_S (hR (k + 1) (by omega)) b2 (by omega) (by omega))
  have hcz := fun v hv => crs_z (o := o) (v := v) (Nat.le_of_lt s1) (Nat.le_of_lt s2) b1 b2 e1 e2 hv
  have hcI : Idl o (Sc m A) (crs s k) := Idl_s (Idl_W (hI k (by omega)) _ _) (Idl_W (hI (k + 1) (by omega)) _ _)
  have hcg : Rg (crC (s.2.2.2.2.1 (k + 1) - s.2.2.2.2.1 k) (s.2.2.2.1 k - s.2.2.2.1 (k + 1)) (s.2.2.1 k) (s.2.2.1 (k + 1))) := crC_g
  unfold crP
  generalize crC (s.2.2.2.2.1 (k + 1) - s.2.2.2.2.1 k) (s.2.2.2.1 k - s.2.2.2.1 (k + 1)) (s.2.2.1 k) (s.2.2.1 (k + 1)) = f at *
  have hcw : ∀ w, f w % 10007 = crs s k w % 10007 := hcw
  have hcz : ∀ v, rk o (pl (s.2.2.2.1 k) (s.2.2.2.2.1 (k + 1))) ≤ rk o v → crs s k v % 10007 = 0 := hcz
  obtain ⟨H, hH⟩ : ∃ H, H = au s.2.2.1 s.1 f := ⟨_, rfl⟩
  rw [← hH]
  have E1 : ∀ k, k < s.1 → H k = s.2.2.1 k := fun k hk => by rw [hH, au_n _ _ (by omega)]
  have E2 : H s.1 = f := by rw [hH, au_s]
  have hG : ∀ g l, Gs o (s.1 + s.2.1) s.2.2.1 g l → Gs o (s.1 + 1) H g l := fun g l ⟨k, hk, eg, el⟩ => ⟨k, by omega, by rw [E1 k (by omega)]; exact eg, by rw [E1 k (by omega)]; exact el⟩
  have rows : ∀ k, k < s.1 + 1 → H k = f ∨ (k < s.1 ∧ H k = s.2.2.1 k) := fun k hk => by
    by_cases c : k = s.1
    · rw [c]; exact Or.inl E2
    · exact Or.inr ⟨by omega, E1 k (by omega)⟩
  refine ⟨⟨fun t ht => ?_, ⟨fun t ht => ?_, hK.2⟩, fun t ht hs => ?_, ?_, fun t ht => ?_, fun t ht => ?_⟩, ?_⟩
  · rcases rows t ht with e | ⟨ht, e⟩
    · show Rg (H t); rw [e]; exact hcg
    · show Rg (H t); rw [e]; exact hR t (by omega)
  · have ht : t < s.1 := ht
    show led o (H t) = _ ∧ H t _ = 1
    rw [E1 t ht]; exact hK.1 t ht
  · have ht : t + 1 < s.1 := ht
    show Vr o (Gs o (s.1 + 1) H) _ (sbr (Wo 0 _ (H t)) (Wo _ 0 (H (t + 1))))
    rw [E1 t (by omega), E1 (t + 1) ht]
    by_cases c : t = k
    · subst c
      show Vr o (Gs o (s.1 + 1) H) _ (crs s t)
      refine (Vr_L o _ _).1 f _ hcw ?_
      by_cases cz : led o f < 0
      · refine (Vr_L o _ _).1 (fun _ => 0) _ (fun w => ?_) (Vr_L o _ _).2.1
        show (0 : Int) % 10007 = f w % 10007
        rw [led_z hcg cz w]
      · obtain ⟨w1, w2, w3, w4⟩ := lw_ok cz
        refine Vr_m (fun _ _ z => z) ?_ (Vr_1 (G := Gs o (s.1 + 1) H) (l := lw o f) ⟨s.1, by omega, E2.symm, by rw [E2]; exact w2⟩)
        refine Nat.lt_of_not_le fun z => (rg_ne hcg).mpr w3 ?_
        rw [hcw]
        exact hcz _ z
    · have hs : au s.2.2.2.2.2 k 1 t = 1 := hs
      rw [au_n _ _ c] at hs
      exact Vr_m hG (Nat.le_refl _) (hS t ht hs)
  · refine Or.inr ⟨X, Y, hJn, hk3, fun t ht w hne => ?_⟩
    have hne : H t w ≠ 0 := hne
    rcases rows t ht with e | ⟨ht, e⟩
    · rw [e] at hne
      have h7 := (rg_ne hcg).mpr hne
      rw [hcw] at h7
      have h8 : rk o w < rk o (pl (s.2.2.2.1 k) (s.2.2.2.2.1 (k + 1))) := Nat.lt_of_not_le fun z => h7 (hcz w z)
      have h9 := rk_le_wn (Nat.le_of_lt h8)
      rw [wn_pl] at h9
      omega
    · rw [e] at hne; exact hw3 t (by omega) w hne
  · exact Idl_sub (fun g l hg => ⟨_, Vr_1 (hG g l hg)⟩) (hA t ht)
  · show Idl o (Sc m A) (H t)
    rcases rows t ht with e | ⟨ht, e⟩
    · rw [e]; exact (Idl_L o _).1 _ _ (fun w => (hcw w).symm) hcI
    · rw [e]; exact hI t (by omega)
  · have c1 : cnP (fun t => t + 1 < s.1 ∧ s.2.2.2.2.2 t = 0) 6 = cnP (fun t => t + 1 < s.1 ∧ au s.2.2.2.2.2 k 1 t = 0) 6 + 1 := by
      rw [← cnP_or (p := fun t => t + 1 < s.1 ∧ au s.2.2.2.2.2 k 1 t = 0) (x := k) (by omega) (fun z => by have := z.2; rw [au_s] at this; exact absurd this (by decide))]
      refine cnP_c (fun t _ => ⟨fun z => ?_, fun z => ?_⟩)
      · by_cases c : t = k
        · exact Or.inr c
        · exact Or.inl ⟨z.1, by rw [au_n _ _ c]; exact z.2⟩
      · rcases z with z | z
        · refine ⟨z.1, ?_⟩
          by_cases c : t = k
          · rw [c]; exact h0
          · have := z.2
            rw [au_n _ _ c] at this
            exact this
        · rw [z]; exact ⟨hk, h0⟩
    show 100 * (28 - cnP (fun w => Jw s (xw w) (dw w)) 28) + 10 * cnP (fun t => t + 1 < s.1 ∧ au s.2.2.2.2.2 k 1 t = 0) 6 + 1 < muc s
    unfold muc
    rw [c1]
    omega
/-- the other rows -/
theorem oth_ne {k t : Nat} : oth k t ≠ k := by unfold oth; split <;> omega
theorem oth_lt {k t n : Nat} (hk : k < n) (h : t < n - 1) : oth k t < n := by unfold oth; split <;> omega
theorem oth_ex {k m n : Nat} (hk : k < n) (hm : m < n) (h : m ≠ k) : ∃ t, t < n - 1 ∧ oth k t = m := by
  by_cases c : m < k
  · exact ⟨m, by omega, if_pos c⟩
  · exact ⟨m - 1, by omega, by unfold oth; rw [if_neg (by omega)]; omega⟩
/-- rows with the leads l, none of which divides another, brought to 1 -/
def Mk (o : Int) (n : Nat) (F : Nat → Nat → Int) (l : Nat → Nat) : Prop := (∀ k, k < n → Rg (F k) ∧ led o (F k) = (l k : Nat) ∧ F k (l k) = 1) ∧ ∀ i j, i < n → j < n → Dvd (l i) (l j) → i = j
theorem Mk_Rl {o : Int} {n : Nat} {F : Nat → Nat → Int} {l : Nat → Nat} (h : Mk o n F l) {k : Nat} (hk : k < n) : Rl o (n - 1) (fun t => F (oth k t)) (fun t => l (oth k t)) := fun t ht => ⟨(h.1 _ (oth_lt hk ht)).1, (h.1 _ (oth_lt hk ht)).2.1⟩
/-- a row becomes its remainder by the others -/
def tlr (o : Int) (n : Nat) (F : Nat → Nat → Int) (l : Nat → Nat) (k : Nat) : Nat → Int := rdC o (fun t => l (oth k t)) (n - 1) (fun t => F (oth k t)) (F k)
theorem tl_ok {o : Int} {n : Nat} {F : Nat → Nat → Int} {l : Nat → Nat} (h : Mk o n F l) {k : Nat} (hk : k < n) : Mk o n (au F k (tlr o n F l k)) l ∧ (∀ v, tlr o n F l k v ≠ 0 → ∀ j, j < n → j ≠ k → ¬ Dvd (l j) v) ∧ Vr o (Rw n F l) (rk o (l k) + 1) (tlr o n F l k) ∧ Vr o (Rw n (au F k (tlr o n F l k)) l) (rk o (l k) + 1) (F k) := by
  have hl := Mk_Rl h hk
  obtain ⟨f1, f2, f3⟩ := h.1 k hk
  have hn : ∀ t, t < n - 1 → ¬ Dvd (l (oth k t)) (l k) := fun t ht z => oth_ne (h.2 _ k (oth_lt hk ht) hk z)
  obtain ⟨a1, a2⟩ := rem_l hl f1 f2 hn
  have hg : Rg (tlr o n F l k) := rem_g f1
  have hb := rg_Bd f1 f2
  have hs := (rem_s hl f1 (r := rk o (l k) + 1) (fun v hv => by have := hb v hv; omega)).1
  have hr := fun (v : Nat) (hv : tlr o n F l k v ≠ 0) (t : Nat) (ht : t < n - 1) => rem_r hl f1 hv ht
  have a1 : tlr o n F l k (l k) = F k (l k) := a1
  have a2 : led o (tlr o n F l k) = (l k : Nat) := a2
  have hs : Vr o (Rw (n - 1) (fun t => F (oth k t)) (fun t => l (oth k t))) (rk o (l k) + 1) (sbr (F k) (tlr o n F l k)) := hs
  generalize tlr o n F l k = R at *
  have w1 : ∀ g u, Rw (n - 1) (fun t => F (oth k t)) (fun t => l (oth k t)) g u → Rw n F l g u := fun g u ⟨t, ht, eg, eu⟩ => ⟨oth k t, oth_lt hk ht, eg, eu⟩
  have w2 : ∀ g u, Rw (n - 1) (fun t => F (oth k t)) (fun t => l (oth k t)) g u → Rw n (au F k R) l g u := fun g u ⟨t, ht, eg, eu⟩ => ⟨oth k t, oth_lt hk ht, by rw [au_n _ _ oth_ne]; exact eg, eu⟩
  refine ⟨⟨fun t ht => ?_, h.2⟩, fun v hv j hj hne => ?_, ?_, ?_⟩
  · by_cases c : t = k
    · rw [c, au_s]; exact ⟨hg, a2, by rw [a1]; exact f3⟩
    · rw [au_n _ _ c]; exact h.1 t ht
  · obtain ⟨t, ht, e⟩ := oth_ex hk hj hne
    have := hr v hv t ht
    rw [e] at this
    exact this
  · refine lin_c (Vr_L o _ _) (c := -1) (Vr_1 (G := Rw n F l) (g := F k) (l := l k) ⟨k, hk, rfl, rfl⟩) (Vr_m w1 (Nat.le_refl _) hs) (fun v => ?_)
    unfold sbr
    refine congrArg (· % 10007) ?_
    omega
  · refine lin_c (Vr_L o _ _) (c := 1) (Vr_1 (G := Rw n (au F k R) l) (g := R) (l := l k) ⟨k, hk, (au_s _ _ _).symm, rfl⟩) (Vr_m w2 (Nat.le_refl _) hs) (fun v => ?_)
    unfold sbr
    refine congrArg (· % 10007) ?_
    omega
/-- other rows with the same leads over the same spans: a staircase too -/
theorem Stc_ch {o : Int} {n : Nat} {F H : Nat → Nat → Int} {l : Nat → Nat} (h : Stc o n F l) (hH : ∀ k, k < n → Bd o (H k) (l k) ∧ H k (l k) % 10007 = 1) (h1 : ∀ k, k < n → Vr o (Rw n F l) (rk o (l k) + 1) (H k)) (h2 : ∀ k, k < n → Vr o (Rw n H l) (rk o (l k) + 1) (F k)) : Stc o n H l := by
  refine ⟨hH, fun k hk => ?_⟩
  obtain ⟨a1, a2, _⟩ := h.2 k hk
  refine ⟨a1, a2, ?_⟩
  obtain ⟨b1, e1⟩ := hH k (by omega)
  obtain ⟨b2, e2⟩ := hH (k + 1) hk
  rw [← pl_w (l k)] at b1 e1
  rw [← pl_w (l (k + 1))] at b2 e2
  have hi : Idl o (Rw n F l) (sbr (Wo 0 (dw (l (k + 1)) - dw (l k)) (H k)) (Wo (xw (l k) - xw (l (k + 1))) 0 (H (k + 1)))) := Idl_s (Idl_W ⟨_, h1 k (by omega)⟩ _ _) (Idl_W ⟨_, h1 (k + 1) hk⟩ _ _)
  obtain ⟨r, hr⟩ := hi
  exact Vr_sub (fun g w ⟨t, ht, eg, ew⟩ => by rw [eg, ew]; exact h2 t ht) (crit_v h (fun v hv => crs_z a1 a2 b1 b2 e1 e2 hv) r hr)
