/-! The reduced basis: the class's end, and that there is only one. -/
theorem rtL_ok {o : Int} {s : C6} (h : Mk o s.1 s.2.2.1 (fun m => pl (s.2.2.2.1 m) (s.2.2.2.2.1 m))) (k : Nat) (hk : k ≤ s.1) : Mk o s.1 (rtL o k s).2.2.1 (fun m => pl (s.2.2.2.1 m) (s.2.2.2.2.1 m)) ∧ (∀ i, i < k → ∀ v, (rtL o k s).2.2.1 i v ≠ 0 → ∀ j, j < s.1 → j ≠ i → ¬ Dvd (pl (s.2.2.2.1 j) (s.2.2.2.2.1 j)) v) ∧ (∀ m, m < s.1 → Vr o (Rw s.1 s.2.2.1 (fun m => pl (s.2.2.2.1 m) (s.2.2.2.2.1 m))) (rk o (pl (s.2.2.2.1 m) (s.2.2.2.2.1 m)) + 1) ((rtL o k s).2.2.1 m)) ∧ ∀ m, m < s.1 → Vr o (Rw s.1 (rtL o k s).2.2.1 (fun m => pl (s.2.2.2.1 m) (s.2.2.2.2.1 m))) (rk o (pl (s.2.2.2.1 m) (s.2.2.2.2.1 m)) + 1) (s.2.2.1 m) := by
  induction k with
  | zero => exact ⟨h, fun i hi => absurd hi (Nat.not_lt_zero _), fun m hm => Vr_1 ⟨m, hm, rfl, rfl⟩, fun m hm => Vr_1 ⟨m, hm, rfl, rfl⟩⟩
  | succ k ih =>
    obtain ⟨i1, i2, i3, i4⟩ := ih (by omega)
    have e : (rtL o (k + 1) s).2.2.1 = au (rtL o k s).2.2.1 k (tlr o s.1 (rtL o k s).2.2.1 (fun m => pl (s.2.2.2.1 m) (s.2.2.2.2.1 m)) k) := by
      show au (rtL o k s).2.2.1 k (rdC o (fun t => pl ((rtL o k s).2.2.2.1 (oth k t)) ((rtL o k s).2.2.2.2.1 (oth k t))) ((rtL o k s).1 - 1) (fun t => (rtL o k s).2.2.1 (oth k t)) ((rtL o k s).2.2.1 k)) = _
      rw [rtL_k.1, rtL_k.2.2]
      rfl
    rw [e]
    generalize (rtL o k s).2.2.1 = T at *
    obtain ⟨t1, t2, t3, t4⟩ := tl_ok i1 (show k < s.1 by omega)
    generalize tlr o s.1 T (fun m => pl (s.2.2.2.1 m) (s.2.2.2.2.1 m)) k = R at *
    refine ⟨t1, fun i hi v hv j hj hne => ?_, fun m hm => ?_, fun m hm => ?_⟩
    · by_cases c : i = k
      · rw [c, au_s] at hv
        rw [c] at hne
        exact t2 v hv j hj hne
      · rw [au_n _ _ c] at hv
        exact i2 i (by omega) v hv j hj hne
    · by_cases c : m = k
      · rw [c, au_s]
        exact Vr_sub (fun g w ⟨t, ht, eg, ew⟩ => by rw [eg, ew]; exact i3 t ht) t3
      · rw [au_n _ _ c]; exact i3 m hm
    · refine Vr_sub (fun g w ⟨t, ht, eg, ew⟩ => ?_) (i4 m hm)
      rw [eg, ew]
      by_cases c : t = k
      · rw [c]; exact t4
      · exact Vr_1 ⟨t, ht, (au_n _ _ c).symm, rfl⟩
theorem pc_Mk {o : Int} {m : Nat} {A : Nat → Nat → Int} {s : C6} (h : Pc o m A s) : Mk o s.1 s.2.2.1 (fun m => pl (s.2.2.2.1 m) (s.2.2.2.2.1 m)) := ⟨fun k hk => ⟨h.1 k (by omega), h.2.1.1 k hk⟩, fun i j hi hj z => by
  obtain ⟨z1, z2⟩ := z
  rw [xw_pl, xw_pl] at z1
  rw [dw_pl, dw_pl] at z2
  exact kp_nd h.2.1 hi hj z1 z2⟩
/-- the completion's promise -/
theorem orc_ok (o : Int) (m : Nat) (A : Nat → Nat → Int) : Orc o (Pc o m A) muc := by
  refine ⟨fun s h => pc_1 h, fun s h h6 hω => ?_, fun s k h hω hk h0 => pc_3 h hω hk h0, fun s h hω _ => ?_⟩
  · by_cases c : led o (abR o s) < 0
    · exact pc_0 h hω c
    · exact pc_2 h hω h6 c
  · have hM := pc_Mk h
    refine ⟨kp_4 h.2.1 h.2.2.2.1, fun k hk => ?_, fun k l hk hl e => ?_⟩
    · obtain ⟨a1, _⟩ := rtL_ok hM k hk
      exact ⟨fun t ht => (a1.1 t ht).2.1, fun t ht j hj => (a1.1 t (by omega)).1.2 j hj⟩
    · have e1 : pl (s.2.2.2.1 k) (s.2.2.2.2.1 k) = pl (s.2.2.2.1 l) (s.2.2.2.2.1 l) := rk_inj e
      have := pl_inj e1
      exact kp_nd h.2.1 hk hl (by omega) (by omega)
/-- the reduced basis of the ideal of A, by the ranks of the leads -/
def RB (o : Int) (m : Nat) (A : Nat → Nat → Int) (n : Nat) (G : Nat → Nat → Int) : Prop :=
  (∀ k, k < n → Rg (G k) ∧ ¬ led o (G k) < 0) ∧ (∀ i j, i < j → j < n → rk o (lw o (G i)) < rk o (lw o (G j))) ∧
  (∃ H l, Pm n H G ∧ (∀ k, k < n → Rg (H k) ∧ led o (H k) = (l k : Nat)) ∧ Stc o n H l ∧ Redu n H l) ∧
  (∀ k, k < n → Idl o (Sc m A) (G k)) ∧ ∀ k, k < m → Idl o (Gs o n G) (A k)
theorem RB_in {o : Int} {m n n' : Nat} {A G G' : Nat → Nat → Int} (h : RB o m A n G) (h' : RB o m A n' G') {a : Nat} (ha : a < n) : ∃ b, b < n' ∧ G a = G' b := by
  obtain ⟨_, _, ⟨H, l, hP, hl, hS, hr⟩, hI, hA⟩ := h
  obtain ⟨_, _, ⟨H', l', hP', hl', hS', hr'⟩, hI', hA'⟩ := h'
  have k1 : ∀ f, Idl o (Sc m A) f → Idl o (Rw n' H' l') f := fun f hf => Idl_sub (fun g l ⟨t, ht, eg⟩ => by
    rw [eg]
    refine Idl_sub (fun g l ⟨t, ht, eg, _⟩ => ?_) (hA' t ht)
    obtain ⟨t', ht', e⟩ := hP'.2 t ht
    rw [eg, e]
    exact Idl_g ht') hf
  have k2 : ∀ f, Idl o (Sc m A) f → Idl o (Rw n H l) f := fun f hf => Idl_sub (fun g w ⟨t, ht, eg⟩ => by
    rw [eg]
    refine Idl_sub (fun g w ⟨t, ht, eg, _⟩ => ?_) (hA t ht)
    obtain ⟨t', ht', e⟩ := hP.2 t ht
    rw [eg, e]
    exact Idl_g ht') hf
  obtain ⟨i, hi, ei⟩ := hP.2 a ha
  obtain ⟨j, hj, el, ev⟩ := uniq hS hS' hr hr' (fun i hi => by
    obtain ⟨t, ht, e⟩ := hP.1 i hi
    rw [← e]
    exact k1 _ (hI t ht)) (fun j hj => by
    obtain ⟨t, ht, e⟩ := hP'.1 j hj
    rw [← e]
    exact k2 _ (hI' t ht)) hi
  obtain ⟨b, hb, eb⟩ := hP'.1 j hj
  refine ⟨b, hb, ?_⟩
  rw [ei, eb]
  funext v
  exact rg_eq (hl i hi).1 (hl' j hj).1 (ev v)
/-- there is only one -/
theorem RB_u {o : Int} {m n n' : Nat} {A G G' : Nat → Nat → Int} (h : RB o m A n G) (h' : RB o m A n' G') : n = n' ∧ ∀ k, k < n → G k = G' k := by
  obtain ⟨en, ek⟩ := srt_eq (a := fun k => rk o (lw o (G k))) (b := fun k => rk o (lw o (G' k))) h.2.1 h'.2.1 (fun a ha => by
    obtain ⟨b, hb, e⟩ := RB_in h h' ha
    exact ⟨b, hb, by show rk o (lw o (G a)) = rk o (lw o (G' b)); rw [e]⟩) (fun a ha => by
    obtain ⟨b, hb, e⟩ := RB_in h' h ha
    exact ⟨b, hb, by show rk o (lw o (G' a)) = rk o (lw o (G b)); rw [e]⟩)
  refine ⟨en, fun k hk => ?_⟩
  obtain ⟨b, hb, e⟩ := RB_in h h' hk
  have e1 : rk o (lw o (G k)) = rk o (lw o (G' k)) := ek k hk
  rw [e] at e1 ⊢
  have : b = k := by
    rcases Nat.lt_trichotomy b k with c | c | c
    · have := h'.2.1 b k c (by omega); omega
    · exact c
    · have := h'.2.1 k b c hb; omega
  rw [this]
/-- a basis of rows H with leads l in any order, sorted -/
theorem RB_of {o : Int} {m n : Nat} {A H G : Nat → Nat → Int} {l : Nat → Nat} (hM : Mk o n H l) (hS : Stc o n H l) (hr : ∀ i, i < n → ∀ v, H i v ≠ 0 → ∀ j, j < n → j ≠ i → ¬ Dvd (l j) v) (hP : Pm n H G) (hs : ∀ i j, i < j → j < n → rk o (lw o (G i)) < rk o (lw o (G j))) (hI : ∀ k, k < n → Idl o (Sc m A) (H k)) (hA : ∀ k, k < m → Idl o (Rw n H l) (A k)) : RB o m A n G := by
  refine ⟨fun k hk => ?_, hs, ⟨H, l, hP, fun k hk => ⟨(hM.1 k hk).1, (hM.1 k hk).2.1⟩, hS, hM.2, fun i v hi hv hne j hj hd => ?_⟩, fun k hk => ?_, fun k hk => ?_⟩
  · obtain ⟨t, ht, e⟩ := hP.2 k hk
    rw [e]
    exact ⟨(hM.1 t ht).1, by rw [(hM.1 t ht).2.1]; omega⟩
  · have hv := (rg_ne (hM.1 i hi).1).mp hv
    by_cases c : j = i
    · rw [c] at hd
      have h1 := rg_Bd (hM.1 i hi).1 (hM.1 i hi).2.1 v ((rg_ne (hM.1 i hi).1).mpr hv)
      have h2 : rk o (l i) < rk o v := by
        have h3 : xw (l i) + dw (l i) = wn (l i) := by have := wn_pl (xw (l i)) (dw (l i)); rw [pl_w] at this; omega
        have h4 : xw v + dw v = wn v := by have := wn_pl (xw v) (dw v); rw [pl_w] at this; omega
        obtain ⟨d1, d2⟩ := hd
        refine rk_d (Nat.lt_of_not_le fun z => hne ?_)
        rw [← pl_w (l i)]
        exact pl_iff.mpr (by omega)
      omega
    · exact hr i hi v hv j hj c hd
  · obtain ⟨t, ht, e⟩ := hP.2 k hk
    rw [e]; exact hI t ht
  · refine Idl_sub (fun g w ⟨t, ht, eg, _⟩ => ?_) (hA k hk)
    obtain ⟨t', ht', e⟩ := hP.1 t ht
    rw [eg, ← e]
    have hl : led o (G t') = (l t : Nat) := by rw [e]; exact (hM.1 t ht).2.1
    exact ⟨_, Vr_1 ⟨t', ht', rfl, hl⟩⟩
/-- what find lays is the reduced basis -/
theorem fnd_RB {o : Int} {m : Nat} {A : Nat → Nat → Int} {s : C6} (h : Pc o m A s) (hω : s.2.1 = 0) (hs : ∀ m, m + 1 < s.1 → s.2.2.2.2.2 m = 1) {π : Nat → Nat} (h1 : ∀ k, k < s.1 → π k < s.1) (h2 : ∀ i j, i < j → j < s.1 → hgt o s (π i) < hgt o s (π j)) (h3 : ∀ m, m < s.1 → ∃ i, i < s.1 ∧ π i = m) : RB o m A s.1 (fun k => (rtL o s.1 s).2.2.1 (π k)) := by
  have hM := pc_Mk h
  obtain ⟨a1, a2, a3, a4⟩ := rtL_ok hM s.1 (Nat.le_refl _)
  have hG : ∀ g l, Gs o (s.1 + s.2.1) s.2.2.1 g l → Rw s.1 s.2.2.1 (fun m => pl (s.2.2.2.1 m) (s.2.2.2.2.1 m)) g l := fun g l ⟨k, hk, eg, el⟩ => ⟨k, by omega, eg, by have := (hM.1 k (by omega)).2.1; dsimp only at this ⊢; omega⟩
  have hS0 : Stc o s.1 s.2.2.1 (fun m => pl (s.2.2.2.1 m) (s.2.2.2.2.1 m)) := ⟨fun k hk => kp_bd h.1 h.2.1 hk, fun k hk => by
    have := h.2.1.2 k hk
    dsimp only
    rw [xw_pl, xw_pl, dw_pl, dw_pl]
    exact ⟨by omega, by omega, Vr_m hG (Nat.le_refl _) (h.2.2.1 k hk (hs k hk))⟩⟩
  have hS := Stc_ch hS0 (fun k hk => ⟨rg_Bd (a1.1 k hk).1 (a1.1 k hk).2.1, by rw [(a1.1 k hk).2.2]; rfl⟩) a3 a4
  refine RB_of a1 hS a2 ⟨fun k hk => ?_, fun k hk => ⟨π k, h1 k hk, rfl⟩⟩ (fun i j hij hj => ?_) (fun k hk => ?_) (fun k hk => ?_)
  · obtain ⟨i, hi, e⟩ := h3 k hk
    exact ⟨i, hi, by show (rtL o s.1 s).2.2.1 (π i) = _; rw [e]⟩
  · have e : ∀ t, t < s.1 → lw o ((rtL o s.1 s).2.2.1 (π t)) = pl (s.2.2.2.1 (π t)) (s.2.2.2.2.1 (π t)) := fun t ht => by
      unfold lw
      rw [(a1.1 _ (h1 t ht)).2.1, Int.toNat_natCast]
    show rk o (lw o ((rtL o s.1 s).2.2.1 (π i))) < rk o (lw o ((rtL o s.1 s).2.2.1 (π j)))
    rw [e i (by omega), e j hj]
    exact h2 i j hij hj
  · refine Idl_sub (fun g w ⟨t, ht, eg, _⟩ => ?_) ⟨_, a3 k hk⟩
    rw [eg]; exact h.2.2.2.2.2 t (by omega)
  · refine Idl_sub (fun g w hg => ?_) (h.2.2.2.2.1 k hk)
    obtain ⟨t, ht, eg, ew⟩ := hG g w hg
    rw [eg]
    exact ⟨_, a4 t ht⟩
/-- the completion's start -/
theorem pc_st {o : Int} {m n : Nat} {A F : Nat → Nat → Int} (hF : ∀ k, k < n → Rg (F k)) (h3 : ∀ k, k < n → ∀ w, F k w ≠ 0 → wn w ≤ 3) (h1 : ∀ k, k < m → (∀ v, A k v = 0) ∨ ∃ j, j < n ∧ F j = A k) (h2 : ∀ j, j < n → ∃ k, k < m ∧ F j = A k) (lx ld : Nat → Nat) (st : Nat → Int) : Pc o m A (0, n, F, lx, ld, st) := by
  refine ⟨fun k hk => hF k (by dsimp only at hk; omega), ⟨fun k hk => absurd hk (Nat.not_lt_zero _), fun k hk => absurd hk (Nat.not_lt_zero _)⟩, fun k hk => absurd hk (Nat.not_lt_zero _), Or.inl ⟨rfl, fun k hk => h3 k (by dsimp only at hk; omega)⟩, fun k hk => ?_, fun k hk => ?_⟩
  · show Idl o (Gs o (0 + n) F) (A k)
    rw [Nat.zero_add]
    have hz : (∀ v, A k v = 0) → Idl o (Gs o n F) (A k) := fun z => (Idl_L o _).1 (fun _ => 0) _ (fun w => by rw [z w]) (Idl_L o _).2.1
    rcases h1 k hk with z | ⟨j, hj, e⟩
    · exact hz z
    · by_cases c : led o (F j) < 0
      · exact hz (fun v => by rw [← e]; exact led_z (hF j hj) c v)
      · exact ⟨_, Vr_1 (l := lw o (F j)) ⟨j, hj, e.symm, (lw_ok c).2.1⟩⟩
  · obtain ⟨t, ht, e⟩ := h2 k (by dsimp only at hk; omega)
    show Idl o (Sc m A) (F k)
    rw [e]
    exact ⟨1 + rk o (pl (0 + xw 0) (0 + dw 0)), Vr_g (p := 0) (q := 0) (l := 0) ⟨t, ht, rfl⟩ (by omega)⟩
