/-! The reference: laysBasis ends with the reduced basis. -/
theorem Rn_p {o : Int} {n : Nat} {G S : Nat → Nat → Int} (h : Pms n G S) (hN : Rn o n G) : Rn o n S := fun k hk => by
  obtain ⟨σ, a1, a2, a3⟩ := h
  rw [a3 k hk]; exact hN _ (a1 k hk)
theorem Jr_p {o : Int} {n : Nat} {G S : Nat → Nat → Int} (h : Pms n G S) (p q : Nat) : Jr o n G p q ↔ Jr o n S p q := by
  obtain ⟨h1, h2⟩ := Pms_P h
  refine ⟨fun ⟨k, hk, z⟩ => ?_, fun ⟨k, hk, z⟩ => ?_⟩
  · obtain ⟨t, ht, e⟩ := h1 k hk
    exact ⟨t, ht, by rw [e]; exact z⟩
  · obtain ⟨t, ht, e⟩ := h2 k hk
    exact ⟨t, ht, by rw [← e]; exact z⟩
theorem Rf_p {o : Int} {m : Nat} {A : Nat → Nat → Int} {n : Nat} {G S : Nat → Nat → Int} (h : Pms n G S) (hR : Rf o m A n G) : Rf o m A n S := by
  obtain ⟨r1, r2, r3, r4⟩ := hR
  have hP := Pms_P h
  refine ⟨Rn_p h r1, r2.imp id (fun ⟨X, Y, hJ, hw⟩ => ⟨X, Y, Jnv_c hJ (Jr_p h), fun k hk w hne => ?_⟩), fun k hk => Idl_sub (fun g l hg => ⟨_, Vr_1 (Gs_p hP hg)⟩) (r3 k hk), fun k hk => ?_⟩
  rotate_left
  · obtain ⟨t, ht, e⟩ := hP.2 k hk
    rw [e] at hne
    exact hw t ht w hne
  · obtain ⟨t, ht, e⟩ := hP.2 k hk
    rw [e]; exact r4 t ht
theorem Rdm_p {o : Int} {n : Nat} {G S : Nat → Nat → Int} (h : Pms n G S) (hd : Rdm o n G) : Rdm o n S := fun r hr => by
  obtain ⟨σ, a1, a2, a3⟩ := h
  rw [a3 r hr]
  obtain ⟨d1, d2⟩ := hd _ (a1 r hr)
  refine ⟨d1, fun v hv j hj hne => ?_⟩
  rw [a3 j hj]
  exact d2 v hv _ (a1 j hj) (fun e => hne (a2 j r hj hr e))
theorem Rdm_nd {o : Int} {n : Nat} {S : Nat → Nat → Int} (hN : Rn o n S) (hd : Rdm o n S) {i j : Nat} (hi : i < n) (hj : j < n) (h : Dvd (lw o (S i)) (lw o (S j))) : i = j := Classical.byContradiction fun e => (hd j hj).2 _ (lw_ok (hN j hj).2).2.2.1 i hi e h
/-- rows by x of their leads: a staircase -/
def Sx (o : Int) (n : Nat) (S : Nat → Nat → Int) : Prop := ∀ i j, i < j → j < n → xw (lw o (S i)) < xw (lw o (S j)) ∧ dw (lw o (S j)) < dw (lw o (S i))
theorem Sx_of {o : Int} {n : Nat} {G : Nat → Nat → Int} (hN : Rn o n G) (hd : Rdm o n G) : Sx o n (srO 1 o G (n - 1)) := fun i j hij hj => by
  have hp : Pms n G (srO 1 o G (n - 1)) := srO_p G (Nat.le_refl _)
  have hN := Rn_p hp hN
  have hd := Rdm_p hp hd
  have h1 := srO_v (b := 1) (o := o) G (n - 1) i j hij (by omega)
  unfold kyo at h1
  rw [if_pos rfl, if_pos rfl] at h1
  generalize srO 1 o G (n - 1) = S at *
  have n1 := fun z => Rdm_nd hN hd (i := i) (j := j) (by omega) hj z
  have n2 := fun z => Rdm_nd hN hd (i := j) (j := i) hj (by omega) z
  unfold Dvd at n1 n2
  by_cases c : dw (lw o (S i)) ≤ dw (lw o (S j))
  · have := n1 ⟨h1, c⟩; omega
  · by_cases c2 : xw (lw o (S j)) ≤ xw (lw o (S i))
    · have := n2 ⟨c2, by omega⟩; omega
    · omega
theorem Sx_lcm {o : Int} {n : Nat} {S : Nat → Nat → Int} (hS : Sx o n S) {X Y : Nat} (hJ : Jnv (Jr o n S) X Y) {k : Nat} (hk : k + 1 < n) : xw (lw o (S (k + 1))) + dw (lw o (S k)) + X + Y ≤ 6 := by
  obtain ⟨a1, a2⟩ := hS k (k + 1) (by omega) hk
  refine Jnv_lcm hJ (x := xw (lw o (S (k + 1)))) (y := dw (lw o (S (k + 1)))) (x' := xw (lw o (S k))) (y' := dw (lw o (S k))) ⟨k + 1, hk, Nat.le_refl _, Nat.le_refl _⟩ ⟨k, by omega, Nat.le_refl _, Nat.le_refl _⟩ a1 a2 ?_
  rintro ⟨t, ht, h1, h2⟩
  by_cases c : t ≤ k
  · by_cases e : t = k
    · rw [e] at h2; omega
    · have := hS t k (by omega) (by omega); omega
  · by_cases e : t = k + 1
    · rw [e] at h1; omega
    · have := hS (k + 1) t (by omega) ht; omega
theorem Sx_7 {o : Int} {m : Nat} {A : Nat → Nat → Int} {n : Nat} {S : Nat → Nat → Int} (h : Rf o m A n S) (hS : Sx o n S) : n ≤ 7 := by
  have hx : ∀ k, k < n → k ≤ xw (lw o (S k)) := fun k => by
    induction k with
    | zero => exact fun _ => Nat.zero_le _
    | succ k ih =>
      intro hk
      have h1 := ih (by omega)
      have h2 := hS k (k + 1) (by omega) hk
      omega
  rcases h.2.1 with z | ⟨X, Y, _, hw⟩
  · omega
  · by_cases c : n = 0
    · omega
    · have h1 := hx (n - 1) (by omega)
      have h2 := hw (n - 1) (by omega) _ (lw_ok (h.1 (n - 1) (by omega)).2).2.2.1
      have h3 : xw (lw o (S (n - 1))) + dw (lw o (S (n - 1))) = wn (lw o (S (n - 1))) := by have := wn_pl (xw (lw o (S (n - 1)))) (dw (lw o (S (n - 1)))); rw [pl_w] at this; omega
      omega
/-- the cross of two neighbours -/
def crq (o : Int) (S : Nat → Nat → Int) (k : Nat) : Nat → Int := sbr (Wo 0 (dw (lw o (S k)) - dw (lw o (S (k + 1)))) (S (k + 1))) (Wo (xw (lw o (S (k + 1))) - xw (lw o (S k))) 0 (S k))
theorem crq_z {o : Int} {n : Nat} {S : Nat → Nat → Int} (hN : Rn o n S) (hd : Rdm o n S) (hS : Sx o n S) {k : Nat} (hk : k + 1 < n) {v : Nat} (hv : rk o (pl (xw (lw o (S (k + 1)))) (dw (lw o (S k)))) ≤ rk o v) : crq o S k v % 10007 = 0 := by
  obtain ⟨a1, a2⟩ := hS k (k + 1) (by omega) hk
  have b1 := rg_Bd (hN (k + 1) hk).1 (lw_ok (hN (k + 1) hk).2).2.1
  have b2 := rg_Bd (hN k (by omega)).1 (lw_ok (hN k (by omega)).2).2.1
  have e1 := (hd (k + 1) hk).1
  have e2 := (hd k (by omega)).1
  rw [← pl_w (lw o (S (k + 1)))] at b1
  rw [← pl_w (lw o (S k))] at b2
  exact crs_z (Nat.le_of_lt a1) (Nat.le_of_lt a2) b1 b2 (by rw [pl_w, e1]; rfl) (by rw [pl_w, e2]; rfl) hv
theorem crG_q {o : Int} {n : Nat} {S : Nat → Nat → Int} (hN : Rn o n S) {k : Nat} (hk : k + 1 < n) {u : Nat} (hu : u < 496) : crG o S k u % 10007 = (-1 * crq o S k u) % 10007 := by
  obtain ⟨g1, g2⟩ := hN k (by omega)
  obtain ⟨h1, h2⟩ := hN (k + 1) hk
  unfold crG crF
  rw [abF_5 (abF_b zer_d _) (by decide) h1.1 hu, abF_5 zer_d (by decide) g1.1 hu]
  have c1 := cor_Wo (xw (lw o (S (k + 1))) - xw (lw o (S k))) 0 (rg_S g1) u
  have c2 := cor_Wo 0 (dw (lw o (S k)) - dw (lw o (S (k + 1)))) (rg_S h1) u
  rw [tri_31] at c1 c2
  unfold crq sbr
  generalize cor (xw (lw o (S (k + 1))) - xw (lw o (S k))) 0 (S k) 496 u = x1 at *
  generalize cor 0 (dw (lw o (S k)) - dw (lw o (S (k + 1)))) (S (k + 1)) 496 u = x2 at *
  generalize Wo (xw (lw o (S (k + 1))) - xw (lw o (S k))) 0 (S k) u = y1 at *
  generalize Wo 0 (dw (lw o (S k)) - dw (lw o (S (k + 1)))) (S (k + 1)) u = y2 at *
  omega
theorem wn_91 {u : Nat} (h : 91 ≤ u) : 13 ≤ wn u := Nat.le_of_not_lt fun z => by
  have h1 := (wn_b u).2
  have h2 := tri_m (show wn u + 1 ≤ 13 by omega)
  rw [tri_13] at h2
  omega
/-- the cross's rest, as the class's remainder -/
theorem spG_rd {o : Int} {m : Nat} {A : Nat → Nat → Int} {n : Nat} {S : Nat → Nat → Int} (h : Rf o m A n S) (hd : Rdm o n S) (hS : Sx o n S) {k : Nat} (hk : k + 1 < n) : spG o n S k = rdC o (fun j => lw o (S j)) n S (c91 (crG o S k)) ∧ ∀ u, c91 (crG o S k) u % 10007 = (-1 * crq o S k u) % 10007 := by
  obtain ⟨hN, hD, _⟩ := h
  rcases hD with z | ⟨X, Y, hJ, hw⟩
  · omega
  have h6 := Sx_lcm hS hJ hk
  have h0 : ∀ u, 91 ≤ u → crq o S k u % 10007 = 0 := fun u hu => crq_z hN hd hS hk (Nat.le_of_lt (rk_d (by
    have := wn_91 hu
    rw [wn_pl]
    omega)))
  have hz : ∀ v, 91 ≤ v → v < 496 → crG o S k v = 0 := fun v h1 h2 => by
    have a1 := crG_q hN hk h2
    have a2 := h0 v h1
    have a3 := crG_b (o := o) (G := S) (k := k) v h2
    omega
  refine ⟨nf_rd hN crG_b hz, fun u => ?_⟩
  show (if u < 91 then crG o S k u else 0) % 10007 = _
  split
  · exact crG_q hN hk (by omega)
  · have := h0 u (by omega)
    omega
/-- one more row -/
theorem om_ok {o : Int} {m : Nat} {A : Nat → Nat → Int} {n : Nat} {S : Nat → Nat → Int} (h : Rf o m A n S) (hd : Rdm o n S) (hS : Sx o n S) {k : Nat} (hk : k + 1 < n) (hz : ¬ led o (spG o n S k) < 0) : Rf o m A (n + 1) (au S n (mon o (spG o n S k))) ∧ cnP (fun w => Jr o n S (xw w) (dw w)) 28 + 1 ≤ cnP (fun w => Jr o (n + 1) (au S n (mon o (spG o n S k))) (xw w) (dw w)) 28 := by
  obtain ⟨eR, eq⟩ := spG_rd h hd hS hk
  have hq := fun v hv => crq_z h.1 hd hS hk (v := v) hv
  obtain ⟨hN, hD, hA, hI⟩ := h
  have hl := Rn_l hN
  have hcg : Rg (c91 (crG o S k)) := c91_g crG_b
  have hRg : Rg (spG o n S k) := by rw [eR]; exact rem_g hcg
  have hqI : Idl o (Sc m A) (crq o S k) := Idl_s (Idl_W (hI (k + 1) hk) _ _) (Idl_W (hI k (by omega)) _ _)
  rcases hD with z | ⟨X, Y, hJ, hw⟩
  · omega
  have h6 := Sx_lcm hS hJ hk
  have hs := rem_s hl hcg (r := rk o (pl (xw (lw o (S (k + 1)))) (dw (lw o (S k))))) (fun v hv => Nat.lt_of_not_le fun z => hv (by
    have := hq v z
    rw [eq v]
    omega))
  have hred : ∀ v, spG o n S k v ≠ 0 → ∀ j, j < n → ¬ Dvd (lw o (S j)) v := fun v hv j hj => by
    rw [eR] at hv
    exact rem_r hl hcg hv hj
  rw [← eR] at hs
  obtain ⟨m1, m2, m3, m4, m5⟩ := mon_g hRg hz
  obtain ⟨v1, v2, v3, v4⟩ := lw_ok hz
  generalize spG o n S k = R at *
  generalize mon o R = M at *
  have hlM : lw o M = lw o R := lw_n m3
  have e1 : ∀ t, t < n → au S n M t = S t := fun t ht => au_n _ _ (by omega)
  have e2 : au S n M n = M := au_s _ _ _
  have hMw : ∀ v, M v ≠ 0 → wn v ≤ xw (lw o (S (k + 1))) + dw (lw o (S k)) := fun v hv => by
    have := rk_le_wn (Nat.le_of_lt (hs.2 v ((rg_ne hRg).mpr (m4 v hv))))
    rw [wn_pl] at this
    exact this
  have hlw := hMw (lw o R) (by rw [m2]; decide)
  have hxd : xw (lw o R) + dw (lw o R) = wn (lw o R) := by have := wn_pl (xw (lw o R)) (dw (lw o R)); rw [pl_w] at this; omega
  have hJi : ∀ p q, (Jr o n S p q ∨ (xw (lw o R) ≤ p ∧ dw (lw o R) ≤ q)) ↔ Jr o (n + 1) (au S n M) p q := fun p q => ⟨fun z => by
    rcases z with ⟨t, ht, h1, h2⟩ | ⟨h1, h2⟩
    · exact ⟨t, by omega, by rw [e1 t ht]; exact h1, by rw [e1 t ht]; exact h2⟩
    · exact ⟨n, by omega, by rw [e2, hlM]; exact h1, by rw [e2, hlM]; exact h2⟩, fun ⟨t, ht, h1, h2⟩ => by
    by_cases e : t = n
    · rw [e, e2, hlM] at h1 h2; exact Or.inr ⟨h1, h2⟩
    · rw [e1 t (by omega)] at h1 h2; exact Or.inl ⟨t, by omega, h1, h2⟩⟩
  have hMI : Idl o (Sc m A) M := by
    have h1 : Idl o (Sc m A) (sbr (c91 (crG o S k)) R) := Idl_sub (fun g l ⟨t, ht, eg, _⟩ => by rw [eg]; exact hI t ht) ⟨_, hs.1⟩
    have h3 : Idl o (Sc m A) (c91 (crG o S k)) := lin_c (Idl_L o _) (c := -1) (Idl_L o _).2.1 hqI (fun v => by rw [Int.zero_add]; exact eq v)
    have h2 : Idl o (Sc m A) R := lin_c (Idl_L o _) (c := -1) h3 h1 (fun v => by
      unfold sbr
      refine congrArg (· % 10007) ?_
      omega)
    refine lin_c (Idl_L o _) (c := inv (R (lw o R))) (Idl_L o _).2.1 h2 (fun v => ?_)
    have b := hRg.1 (lw o R)
    have i1 := inv_ok (v := R (lw o R)) (by omega)
    have := md_mul (c := inv (R (lw o R))) (m5 v)
    rw [Int.zero_add, this, ← Int.mul_assoc, Int.mul_comm (inv (R (lw o R))) (R (lw o R)), Int.mul_comm (R (lw o R) * inv (R (lw o R))) (M v), md_mul (b := 1) (by rw [i1]; rfl), Int.mul_one]
  refine ⟨⟨fun t ht => ?_, Or.inr ⟨_, _, Jnv_c (Jnv_add hJ (a := xw (lw o R)) (b := dw (lw o R)) (by omega)) hJi, fun t ht w hne => ?_⟩, fun t ht => ?_, fun t ht => ?_⟩, ?_⟩
  · by_cases e : t = n
    · rw [e, e2]; exact ⟨m1, by rw [m3]; omega⟩
    · rw [e1 t (by omega)]; exact hN t (by omega)
  · by_cases e : t = n
    · rw [e, e2] at hne
      have := hMw w hne
      omega
    · rw [e1 t (by omega)] at hne
      have := hw t (by omega) w hne
      omega
  · exact Idl_sub (fun g l ⟨j, hj, eg, el⟩ => ⟨_, Vr_1 ⟨j, by omega, by rw [e1 j hj]; exact eg, by rw [e1 j hj]; exact el⟩⟩) (hA t ht)
  · by_cases e : t = n
    · rw [e, e2]; exact hMI
    · rw [e1 t (by omega)]; exact hI t (by omega)
  · have hw28 : lw o R < 28 := by
      have := pl_lt (i := xw (lw o R)) (j := dw (lw o R)) (n := 6) (by omega)
      rw [pl_w] at this
      exact this
    have c1 := cnP_or (p := fun w => Jr o n S (xw w) (dw w)) hw28 (fun ⟨t, ht, z⟩ => hred _ v3 t ht z)
    have c2 : cnP (fun w => Jr o n S (xw w) (dw w) ∨ w = lw o R) 28 ≤ cnP (fun w => Jr o (n + 1) (au S n M) (xw w) (dw w)) 28 := cnP_m (fun w _ z => (hJi _ _).mp (z.imp id (fun e => by rw [e]; exact ⟨Nat.le_refl _, Nat.le_refl _⟩)))
    omega
theorem fst_z {P : Nat → Prop} (z : Nat) (h : P z) : ∃ y, y ≤ z ∧ P y ∧ ∀ j, j < y → ¬ P j := by
  induction z using Nat.strongRecOn with
  | ind z ih =>
    by_cases c : ∃ j, j < z ∧ P j
    · obtain ⟨j, hj, hp⟩ := c
      obtain ⟨y, h1, h2, h3⟩ := ih j hj hp
      exact ⟨y, by omega, h2, h3⟩
    · exact ⟨z, Nat.le_refl _, h, fun j hj hp => c ⟨j, hj, hp⟩⟩
/-- a turn of laysBasis -/
def LbS (o : Int) (n : Nat) (G : Nat → Nat → Int) (n' : Nat) (G' : Nat → Nat → Int) : Prop := Xs o n (srO 1 o G (n - 1)) ∧ n ≤ 22 ∧ ∃ z N, z < n - 1 ∧ (∀ j, j < z → led o (spG o n (srO 1 o G (n - 1)) j) < 0) ∧ ¬ led o (spG o n (srO 1 o G (n - 1)) z) < 0 ∧ TdOk o (n + 1) (omG o n G z) N ∧ n' = (tdI o (n + 1) (omG o n G z) N).1 ∧ G' = (tdI o (n + 1) (omG o n G z) N).2.1
theorem lb_ex {o : Int} {m : Nat} {A : Nat → Nat → Int} (c : Nat) : ∀ (n : Nat) (G : Nat → Nat → Int), Rf o m A n G → Rdm o n G → 28 - cnP (fun w => Jr o n G (xw w) (dw w)) 28 ≤ c → ∃ (M : Nat) (sn : Nat → Nat) (sG : Nat → Nat → Nat → Int), M ≤ c ∧ sn 0 = n ∧ sG 0 = G ∧ (∀ k, k < M → LbS o (sn k) (sG k) (sn (k + 1)) (sG (k + 1))) ∧ Xs o (sn M) (srO 1 o (sG M) (sn M - 1)) ∧ (∀ j, j < sn M - 1 → led o (spG o (sn M) (srO 1 o (sG M) (sn M - 1)) j) < 0) ∧ Rf o m A (sn M) (sG M) ∧ Rdm o (sn M) (sG M) := by
  have hX : ∀ (n : Nat) (G : Nat → Nat → Int), Rf o m A n G → Rdm o n G → Xs o n (srO 1 o G (n - 1)) ∧ n ≤ 7 := fun n G h hd => by
    have hS := Sx_of h.1 hd
    have hR := Rf_p (srO_p (b := 1) (o := o) G (Nat.le_refl (n - 1))) h
    refine ⟨fun k hk => ?_, Sx_7 hR hS⟩
    rcases hR.2.1 with z | ⟨X, Y, hJ, _⟩
    · omega
    · have h1 := hS k (k + 1) (by omega) hk
      have h2 := Sx_lcm hS hJ hk
      exact ⟨h1.1, h1.2, by omega⟩
  induction c with
  | zero =>
    intro n G h hd hc
    obtain ⟨x1, x2⟩ := hX n G h hd
    refine ⟨0, fun _ => n, fun _ => G, Nat.le_refl _, rfl, rfl, fun k hk => absurd hk (Nat.not_lt_zero _), x1, fun j hj => Classical.byContradiction fun z => ?_, h, hd⟩
    have hj : j < n - 1 := hj
    have hp : Pms n G (srO 1 o G (n - 1)) := srO_p G (Nat.le_refl _)
    have h1 := (om_ok (Rf_p hp h) (Rdm_p hp hd) (Sx_of h.1 hd) (show j + 1 < n by omega) z).2
    have h2 := cnP_b (p := fun w => Jr o (n + 1) (au (srO 1 o G (n - 1)) n (mon o (spG o n (srO 1 o G (n - 1)) j))) (xw w) (dw w)) (n := 28)
    have h3 : cnP (fun w => Jr o n G (xw w) (dw w)) 28 = cnP (fun w => Jr o n (srO 1 o G (n - 1)) (xw w) (dw w)) 28 := cnP_c (fun w _ => Jr_p hp _ _)
    omega
  | succ c ih =>
    intro n G h hd hc
    obtain ⟨x1, x2⟩ := hX n G h hd
    by_cases hall : ∃ j, j < n - 1 ∧ ¬ led o (spG o n (srO 1 o G (n - 1)) j) < 0
    · obtain ⟨j, hj, hj2⟩ := hall
      obtain ⟨z, z1, z2, z3⟩ := fst_z (P := fun j => ¬ led o (spG o n (srO 1 o G (n - 1)) j) < 0) j hj2
      have hp : Pms n G (srO 1 o G (n - 1)) := srO_p G (Nat.le_refl _)
      obtain ⟨o1, o2⟩ := om_ok (Rf_p hp h) (Rdm_p hp hd) (Sx_of h.1 hd) (show z + 1 < n by omega) z2
      obtain ⟨N, t1, t2, t3, t4, t5⟩ := td_ok o1 (by omega)
      have h3 : cnP (fun w => Jr o n G (xw w) (dw w)) 28 = cnP (fun w => Jr o n (srO 1 o G (n - 1)) (xw w) (dw w)) 28 := cnP_c (fun w _ => Jr_p hp _ _)
      have h4 := cnP_m (n := 28) (fun w (_ : w < 28) => t5 (xw w) (dw w))
      have h5 := cnP_b (p := fun w => Jr o (tdI o (n + 1) (au (srO 1 o G (n - 1)) n (mon o (spG o n (srO 1 o G (n - 1)) z))) N).1 (tdI o (n + 1) (au (srO 1 o G (n - 1)) n (mon o (spG o n (srO 1 o G (n - 1)) z))) N).2.1 (xw w) (dw w)) (n := 28)
      obtain ⟨M, sn, sG, i1, i2, i3, i4, i5, i6, i7, i8⟩ := ih _ _ t2 t3 (by omega)
      refine ⟨M + 1, fun k => Nat.rec (motive := fun _ => Nat) n (fun k _ => sn k) k, fun k => Nat.rec (motive := fun _ => Nat → Nat → Int) G (fun k _ => sG k) k, by omega, rfl, rfl, fun k hk => ?_, i5, i6, i7, i8⟩
      cases k with
      | zero =>
        show LbS o n G (sn 0) (sG 0)
        exact ⟨x1, by omega, z, N, by omega, fun j hj => Decidable.not_not.mp (z3 j hj), z2, t1, i2, i3⟩
      | succ k => exact i4 k (by omega)
    · refine ⟨0, fun _ => n, fun _ => G, Nat.zero_le _, rfl, rfl, fun k hk => absurd hk (Nat.not_lt_zero _), x1, fun j hj => Classical.byContradiction fun z => hall ⟨j, hj, z⟩, h, hd⟩
/-- the reference's rows are the reduced basis -/
theorem lay_ex {o : Int} {m : Nat} {A : Nat → Nat → Int} {n : Nat} {G : Nat → Nat → Int} (h : Rf o m A n G) (h23 : n ≤ 23) : ∃ M sn sG, LbRun o n G M sn sG ∧ RB o m A (sn M) (srO 0 o (srO 1 o (sG M) (sn M - 1)) (sn M - 1)) := by
  obtain ⟨N, t1, t2, t3, t4, t5⟩ := td_ok h h23
  have hb : 28 - cnP (fun w => Jr o (tdI o n G N).1 (tdI o n G N).2.1 (xw w) (dw w)) 28 ≤ 28 := by omega
  obtain ⟨M, sn, sG, i1, i2, i3, i4, i5, i6, i7, i8⟩ := lb_ex 28 _ _ t2 t3 hb
  refine ⟨M, sn, sG, ⟨by omega, ⟨N, t1, i2, i3⟩, i4, i5, i6⟩, ?_⟩
  generalize sn M = n at *
  generalize sG M = G at *
  have hp : Pms n G (srO 1 o G (n - 1)) := srO_p G (Nat.le_refl _)
  have hS := Sx_of i7.1 i8
  have hR := Rf_p hp i7
  have hd := Rdm_p hp i8
  generalize srO 1 o G (n - 1) = S at *
  have hp2 : Pms n S (srO 0 o S (n - 1)) := srO_p S (Nat.le_refl _)
  have hv := srO_v (b := 0) (o := o) S (n - 1)
  have hd2 := Rdm_p hp2 hd
  have hN2 := Rn_p hp2 hR.1
  have hl := Rn_l hR.1
  have hrev : Pm n (fun i => S (n - 1 - i)) S := ⟨fun k hk => ⟨n - 1 - k, by omega, rfl⟩, fun k hk => ⟨n - 1 - k, by omega, by dsimp only; rw [show n - 1 - (n - 1 - k) = k by omega]⟩⟩
  have hw : ∀ g l, Rw n S (fun j => lw o (S j)) g l → Rw n (fun i => S (n - 1 - i)) (fun i => lw o (S (n - 1 - i))) g l := fun g l ⟨k, hk, eg, el⟩ => ⟨n - 1 - k, by omega, by dsimp only; rw [show n - 1 - (n - 1 - k) = k by omega]; exact eg, by dsimp only; rw [show n - 1 - (n - 1 - k) = k by omega]; exact el⟩
  refine RB_of (H := fun i => S (n - 1 - i)) (l := fun i => lw o (S (n - 1 - i))) ⟨fun k hk => ⟨(hR.1 _ (by omega)).1, (lw_ok (hR.1 (n - 1 - k) (by omega)).2).2.1, (hd _ (by omega)).1⟩, fun i j hi hj z => ?_⟩ ⟨fun k hk => ⟨rg_Bd (hR.1 (n - 1 - k) (by omega)).1 (lw_ok (hR.1 (n - 1 - k) (by omega)).2).2.1, by dsimp only; rw [(hd (n - 1 - k) (by omega)).1]; rfl⟩, fun k hk => ?_⟩ (fun i hi v hv j hj hne => (hd (n - 1 - i) (by omega)).2 v hv (n - 1 - j) (by omega) (by omega)) (Pm_t hrev (Pms_P hp2)) (fun i j hij hj => ?_) (fun k hk => hR.2.2.2 _ (by omega)) (fun k hk => ?_)
  · have := Rdm_nd hR.1 hd (i := n - 1 - i) (j := n - 1 - j) (by omega) (by omega) z
    omega
  · dsimp only
    obtain ⟨t, ht⟩ : ∃ t, t = n - 1 - (k + 1) := ⟨_, rfl⟩
    rw [show n - 1 - k = t + 1 by omega, ← ht]
    have hs := hS t (t + 1) (by omega) (by omega)
    refine ⟨by omega, by omega, ?_⟩
    show Vr o _ _ (crq o S t)
    obtain ⟨eR, eq⟩ := spG_rd hR hd hS (k := t) (by omega)
    have hz := i6 t (by omega)
    have hq := fun v hv => crq_z hR.1 hd hS (k := t) (by omega) (v := v) hv
    have hcg : Rg (c91 (crG o S t)) := c91_g crG_b
    have z0 : ∀ v, rdC o (fun j => lw o (S j)) n S (c91 (crG o S t)) v = 0 := by rw [eR] at hz; exact led_z (rem_g hcg) hz
    have h1 := (rem_s hl hcg (r := rk o (pl (xw (lw o (S (t + 1)))) (dw (lw o (S t))))) (fun v hv => Nat.lt_of_not_le fun z => hv (by
      have := hq v z
      rw [eq v]
      omega))).1
    refine lin_c (Vr_L o _ _) (c := -1) (Vr_L o _ _).2.1 (Vr_m hw (Nat.le_refl _) h1) (fun v => ?_)
    have := eq v
    unfold sbr
    rw [z0 v, Int.zero_add]
    generalize c91 (crG o S t) v = x at *
    omega
  · have h1 := hv i j hij (by omega)
    have h2 : kyo 0 o (srO 0 o S (n - 1) i) = rk o (lw o (srO 0 o S (n - 1) i)) := by unfold kyo; rw [if_neg (by decide)]
    have h3 : kyo 0 o (srO 0 o S (n - 1) j) = rk o (lw o (srO 0 o S (n - 1) j)) := by unfold kyo; rw [if_neg (by decide)]
    rw [h2, h3] at h1
    refine Nat.lt_of_le_of_ne h1 fun z => ?_
    have e := rk_inj z
    have := Rdm_nd hN2 hd2 (i := i) (j := j) (by omega) hj (by rw [e]; exact ⟨Nat.le_refl _, Nat.le_refl _⟩)
    omega
  · refine Idl_sub (fun g w ⟨t, ht, eg, el⟩ => ?_) (hR.2.2.1 k hk)
    have := lw_n el
    exact ⟨_, Vr_1 (hw g w ⟨t, ht, eg, this.symm⟩)⟩
