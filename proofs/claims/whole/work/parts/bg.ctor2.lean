/-! Constructors: history, bases, completion. Written by wip/whole/gen_bg.py. -/
theorem c_hist {d L : Nat} {I : Nat → Nat → Int} {R : Nat → Nat → Option Nat} (hf : Fsh 22 I R) (hI : ∀ i, I 21 i = 0) : ∃ S, am_run am_tb (d + 3) 41 [vR 21] (GH 22 L I R 0) = some ([], GH 108 L I S 0) ∧ S 21 0 = some 22 ∧ (∀ k, k < 5 → S 22 k = some (23 + 17 * k) ∧ Sf8 S (23 + 17 * k)) ∧ ∀ k, ¬ (21 ≤ k ∧ k < 108) → S k = R k := by
  obtain ⟨R1, e1⟩ : ∃ Q, Q = au R 21 (au (R 21) 0 (some 22)) := ⟨_, rfl⟩
  have f1 : Fsh 23 I R1 := by rw [e1]; exact fsh_p (fsh_m hf (by omega)) (by omega)
  have hlp : ∃ r, am_lp (am_ev (am_run am_tb (d + 2)) wX5_init_24) 24 am_F ([vR 21, vI (0 : Nat)], [], GH 23 L I R1 0) = some r ∧ ∃ S, r = (50, [vR 21, vI (5 : Nat)], [], GH 108 L I S 0) ∧ (∀ k, k < 5 → S 22 k = some (23 + 17 * k) ∧ Sf8 S (23 + 17 * k)) ∧ ∀ k, k ≠ 22 → ¬ (23 ≤ k ∧ k < 108) → S k = R1 k := by
    refine lp_inv (fun s y => ∃ S, y = ([vR 21, vI (s : Nat)], [], GH (23 + 17 * s) L I S 0) ∧ (∀ t, t < s → S 22 t = some (23 + 17 * t) ∧ Sf8 S (23 + 17 * t)) ∧ ∀ k, k ≠ 22 → ¬ (23 ≤ k ∧ k < 23 + 17 * s) → S k = R1 k) _ 5 ⟨R1, rfl, fun t ht => absurd ht (Nat.not_lt_zero _), fun _ _ _ => rfl⟩ (ltF (by omega)) (fun s y hs hy => ?_) (fun y hy => ?_)
    · obtain ⟨S, ey, hS, hFr⟩ := hy
      subst ey
      have hl8 := ls_all.2 s hs
      have fS : Fsh (23 + 17 * s) I S := fsh_c f1 (by omega) (fun _ _ => rfl) (fun k hk => hFr k (by omega) (by omega))
      obtain ⟨S1, hst, h8, hFr1⟩ := c_state (d := d) (L := L) (I := I) (R := S) hl8 (fsh_m fS (by omega)) (fr_i fS (Nat.le_refl _))
      obtain ⟨S2, g2⟩ : ∃ Q, Q = au S1 22 (au (S1 22) s (some (23 + 17 * s))) := ⟨_, rfl⟩
      have hx0 : S 21 0 = some 22 := by rw [hFr 21 (by omega) (by omega), e1, aup]
      refine ⟨([vR 21, vI (s + 1 : Nat)], [], GH (23 + 17 * (s + 1)) L I S2 0), ?_, S2, rfl, fun t ht => ?_, fun k h1 h2 => ?_⟩
      · unfold wX5_init_24
        apply t_Q
        · apply t_B
          · refine x_iload_n rfl ?_
            refine x_iconst ?_
            exact rfl
          exact t_ic_ge_f (by omega)
        apply t_B
        · refine x_aload_n rfl ?_
          refine g_gr (by omega) tg_21 rfl hx0 ?_
          refine x_iload_n rfl ?_
          refine g_new hl8.2.1.1 (by decide) ((ln_k (by omega)).trans hl8.2.1.2) (fr_i fS (Nat.le_refl _)) (fr_n fS (Nat.le_refl _) hl8.2.1.1 (by decide)) rfl ?_
          refine x_dup rfl ?_
          refine g_spec (vs := []) (by decide) (by omega) hl8.2.1.1 rfl (Nat.le_of_ble_eq_true rfl) hst ?_
          refine g_aast (by omega) (by omega) tg_22 ⟨by decide, by decide, hl8.2.1.1⟩ (ln_22 L) (by omega) ?_
          rw [Int.toNat_natCast, ← g2]
          refine x_iinc rfl rfl ?_
          exact rfl
        exact t_goeq rfl
      · by_cases c : t = s
        · rw [c, g2]
          exact ⟨aup, Sf8_c h8 (fun k h1 h2 => au_n _ _ (by omega))⟩
        · refine ⟨?_, Sf8_c (hS t (by omega)).2 (fun k h1 h2 => ?_)⟩
          · rw [g2, aun c, hFr1 22 (by omega)]; exact (hS t (by omega)).1
          · rw [g2, au_n _ _ (by omega), hFr1 k (by omega)]
      · rw [g2, au_n _ _ h1, hFr1 k (by omega)]
        exact hFr k h1 (by omega)
    · obtain ⟨S, ey, hS, hFr⟩ := hy
      subst ey
      refine ⟨(50, [vR 21, vI (5 : Nat)], [], GH 108 L I S 0), ?_, by show ¬ 50 = 24 + 2; decide, S, rfl, hS, fun k h1 h2 => hFr k h1 (by omega)⟩
      unfold wX5_init_24
      apply t_Qs
      apply t_B
      · refine x_iload_n rfl ?_
        refine x_iconst ?_
        exact rfl
      exact t_ic_ge_t (by omega)
  obtain ⟨r, hl, S, er, hS, hFr⟩ := hlp
  subst er
  refine ⟨S, ?_, by rw [hFr 21 (by omega) (by omega), e1, aup], hS, fun k hk => by rw [hFr k (by omega) (by omega), e1, au_n _ _ (by omega)]⟩
  refine run_of tb_X5_init (Nat.le_of_ble_eq_true rfl) ?_
  show ∃ ls', am_ev (am_run am_tb (d + 2)) tX5_init ([vR 21, vU], [], GH 22 L I R 0) = _
  apply Exists.intro
  unfold tX5_init
  apply t_Q
  · apply t_S
    refine x_aload_n rfl ?_
    refine g_super (Nat.le_of_ble_eq_true rfl) ?_
    refine x_aload_n rfl ?_
    refine x_iconst ?_
    refine g_an tg_22 (by decide) (ln_22 L) rfl (by decide) (fr_n hf (Nat.le_refl _) tg_22 (by decide)) ?_
    refine g_pr (by omega) tg_21 rfl ?_
    rw [← e1]
    refine x_aload_n rfl ?_
    refine x_iconst ?_
    refine g_p0 (by omega) tg_21 rfl rfl (hI 1) ?_
    refine x_aload_n rfl ?_
    refine x_iconst ?_
    refine g_p0 (by omega) tg_21 rfl rfl (hI 2) ?_
    refine x_iconst ?_
    refine x_istore_n rfl ?_
    exact rfl
  apply t_Q
  · apply t_K
    apply t_W
    exact hl
  apply t_B
  · exact rfl
  exact rfl
/-- how a basis lies -/
def Lb2 (a : Nat) : Prop := 0 < a ∧ (tg a = 2 ∧ ly_n.getD a 0 = 6) ∧ (tg (a + 1) = 23 ∧ ly_n.getD (a + 1) 0 = 4) ∧ (tg (a + 2) = 20 ∧ ly_n.getD (a + 2) 0 = 4) ∧ (tg (a + 3) = 20 ∧ ly_n.getD (a + 3) 0 = 4) ∧ (tg (a + 4) = 20 ∧ ly_n.getD (a + 4) 0 = 60) ∧ ∀ s, s < 4 → (tg (a + 5 + 2 * s) = 6 ∧ ly_n.getD (a + 5 + 2 * s) 0 = 1) ∧ tg (a + 5 + 2 * s + 1) = 20 ∧ ly_n.getD (a + 5 + 2 * s + 1) 0 = 91
theorem lb_all : ∀ k, k < 4 → Lb2 (171 + 13 * k) := by unfold Lb2; decide +kernel
/-- the references of a basis -/
def Bf2 (R : Nat → Nat → Option Nat) (a : Nat) : Prop := R a 0 = some (a + 1) ∧ R a 1 = some (a + 2) ∧ R a 2 = some (a + 3) ∧ R a 3 = some (a + 4) ∧ ∀ s, s < 4 → R (a + 1) s = some (a + 5 + 2 * s) ∧ R (a + 5 + 2 * s) 0 = some (a + 5 + 2 * s + 1)
theorem Bf2_c {R S : Nat → Nat → Option Nat} {a : Nat} (h : Bf2 R a) (e : ∀ k, a ≤ k → k < a + 13 → S k = R k) : Bf2 S a := by
  obtain ⟨h1, h2, h3, h4, h5⟩ := h
  exact ⟨by rw [e a (by omega) (by omega)]; exact h1, by rw [e a (by omega) (by omega)]; exact h2, by rw [e a (by omega) (by omega)]; exact h3, by rw [e a (by omega) (by omega)]; exact h4, fun s hs => by rw [e (a + 1) (by omega) (by omega), e (a + 5 + 2 * s) (by omega) (by omega)]; exact h5 s hs⟩
theorem c_basis {d L a : Nat} {I : Nat → Nat → Int} {R : Nat → Nat → Option Nat} (hx : Lb2 a) (hf : Fsh (a + 1) I R) (hI : ∀ i, I a i = 0) : ∃ S, am_run am_tb (d + 2) 18 [vR a] (GH (a + 1) L I R 0) = some ([], GH (a + 13) L (au I a (au (I a) 4 (-1))) S 0) ∧ Bf2 S a ∧ ∀ k, ¬ (a ≤ k ∧ k < a + 13) → S k = R k := by
  obtain ⟨h0, ⟨t0, l0⟩, ⟨t1, l1⟩, ⟨t2, l2⟩, ⟨t3, l3⟩, ⟨t4, l4⟩, h5⟩ := hx
  obtain ⟨R1, e1⟩ : ∃ Q, Q = au R a (au (R a) 0 (some (a + 1))) := ⟨_, rfl⟩
  obtain ⟨R2, e2⟩ : ∃ Q, Q = au R1 a (au (R1 a) 1 (some (a + 2))) := ⟨_, rfl⟩
  obtain ⟨R3, e3⟩ : ∃ Q, Q = au R2 a (au (R2 a) 2 (some (a + 3))) := ⟨_, rfl⟩
  obtain ⟨R4, e4⟩ : ∃ Q, Q = au R3 a (au (R3 a) 3 (some (a + 4))) := ⟨_, rfl⟩
  obtain ⟨J, eJ⟩ : ∃ Q, Q = au I a (au (I a) 4 (-1)) := ⟨_, rfl⟩
  rw [← eJ]
  have f1 : Fsh (a + 2) I R1 := by rw [e1]; exact fsh_p (fsh_m hf (by omega)) (by omega)
  have f2 : Fsh (a + 3) I R2 := by rw [e2]; exact fsh_p (fsh_m f1 (by omega)) (by omega)
  have f3 : Fsh (a + 4) I R3 := by rw [e3]; exact fsh_p (fsh_m f2 (by omega)) (by omega)
  have f4 : Fsh (a + 5) I R4 := by rw [e4]; exact fsh_p (fsh_m f3 (by omega)) (by omega)
  have fB : Fsh (a + 5) J R4 := fsh_c f4 (Nat.le_refl _) (fun k hk => by rw [eJ, au_n _ _ (by omega)]) (fun _ _ => rfl)
  have r4x : ∀ k, k ≠ a → R4 k = R k := fun k hk => by rw [e4, au_n _ _ hk, e3, au_n _ _ hk, e2, au_n _ _ hk, e1, au_n _ _ hk]
  have q3 : R4 a 3 = some (a + 4) := by rw [e4, aup]
  have q2 : R4 a 2 = some (a + 3) := by rw [e4, aun (by decide), e3, aup]
  have q1 : R4 a 1 = some (a + 2) := by rw [e4, aun (by decide), e3, aun (by decide), e2, aup]
  have hx0 : R4 a 0 = some (a + 1) := by rw [e4, aun (by decide), e3, aun (by decide), e2, aun (by decide), e1, aup]
  have hlp : ∃ r, am_lp (am_ev (am_run am_tb (d + 1)) wX2_init_46) 46 am_F ([vR a, vI (0 : Nat)], [], GH (a + 5) L J R4 0) = some r ∧ ∃ S, r = (70 + 2, [vR a, vI (4 : Nat)], [], GH ((a + 5) + 2 * 4) L J S 0) ∧ (∀ s, s < 4 → S (a + 1) s = some ((a + 5) + 2 * s) ∧ S ((a + 5) + 2 * s) 0 = some ((a + 5) + 2 * s + 1)) ∧ (∀ k, k ≠ (a + 1) → ¬ ((a + 5) ≤ k ∧ k < (a + 5) + 2 * 4) → S k = R4 k) := by
    refine lp_inv (fun s y => ∃ S, y = ([vR a, vI (s : Nat)], [], GH ((a + 5) + 2 * s) L J S 0) ∧ (∀ t, t < s → S (a + 1) t = some ((a + 5) + 2 * t) ∧ S ((a + 5) + 2 * t) 0 = some ((a + 5) + 2 * t + 1)) ∧ ∀ k, k ≠ (a + 1) → ¬ ((a + 5) ≤ k ∧ k < (a + 5) + 2 * s) → S k = R4 k) _ 4 ⟨R4, rfl, fun t ht => absurd ht (Nat.not_lt_zero _), fun _ _ _ => rfl⟩ (ltF (by omega)) (fun s y hs hy => ?_) (fun y hy => ?_)
    · obtain ⟨S, ey, hS, hFr⟩ := hy
      subst ey
      obtain ⟨⟨p1, p2⟩, p3, p4⟩ := h5 s hs
      have fS : Fsh ((a + 5) + 2 * s) J S := fsh_c fB (by omega) (fun _ _ => rfl) (fun k hk => hFr k (by omega) (by omega))
      have hop := c_op (d := d) (L := L) (n := (a + 5) + 2 * s + 1) (a := (a + 5) + 2 * s) (I := J) (R := S) (u := 0) (by omega) (fsh_m fS (by omega)) p1 p3 ((ln_k (by omega)).trans p4)
      obtain ⟨S1, g1⟩ : ∃ Q, Q = au S ((a + 5) + 2 * s) (au (S ((a + 5) + 2 * s)) 0 (some ((a + 5) + 2 * s + 1))) := ⟨_, rfl⟩
      obtain ⟨S2, g2⟩ : ∃ Q, Q = au S1 (a + 1) (au (S1 (a + 1)) s (some ((a + 5) + 2 * s))) := ⟨_, rfl⟩
      rw [← g1] at hop
      have hx0' : S a 0 = some (a + 1) := by rw [hFr a (by omega) (by omega)]; exact hx0
      refine ⟨([vR a, vI (s + 1 : Nat)], [], GH ((a + 5) + 2 * (s + 1)) L J S2 0), ?_, S2, rfl, fun t ht => ?_, fun k h1 h2 => ?_⟩
      · unfold wX2_init_46
        apply t_Q
        · apply t_B
          · refine x_iload_n rfl ?_
            refine x_iconst ?_
            exact rfl
          exact t_ic_ge_f (by omega)
        apply t_B
        · refine x_aload_n rfl ?_
          refine g_gr (by omega) t0 rfl hx0' ?_
          refine x_iload_n rfl ?_
          refine g_new p1 (by decide) ((ln_k (by omega)).trans p2) (fr_i fS (Nat.le_refl _)) (fr_n fS (Nat.le_refl _) p1 (by decide)) rfl ?_
          refine x_dup rfl ?_
          refine g_spec (vs := []) (by decide) (by omega) p1 rfl (Nat.le_of_ble_eq_true rfl) hop ?_
          refine g_aast (by omega) (by omega) t1 ⟨by decide, by decide, p1⟩ ((ln_k (by omega)).trans l1) (by omega) ?_
          rw [Int.toNat_natCast, ← g2]
          refine x_iinc rfl rfl ?_
          exact rfl
        exact t_goeq rfl
      · by_cases c : t = s
        · rw [c, g2]
          refine ⟨aup, ?_⟩
          rw [au_n _ _ (by omega), g1, aup]
        · rw [g2, aun c, au_n _ _ (by omega), g1, au_n _ _ (by omega), au_n _ _ (by omega)]
          exact hS t (by omega)
      · rw [g2, au_n _ _ h1, g1, au_n _ _ (by omega)]
        exact hFr k h1 (by omega)
    · obtain ⟨S, ey, hS, hFr⟩ := hy
      subst ey
      refine ⟨(70 + 2, [vR a, vI (4 : Nat)], [], GH ((a + 5) + 2 * 4) L J S 0), ?_, by show ¬ 70 + 2 = 46 + 2; decide, S, rfl, hS, fun k h1 h2 => hFr k h1 (by omega)⟩
      unfold wX2_init_46
      apply t_Qs
      apply t_B
      · refine x_iload_n rfl ?_
        refine x_iconst ?_
        exact rfl
      exact t_ic_ge_t (by omega)
  obtain ⟨r, hl, S, er, hS, hFr⟩ := hlp
  subst er
  refine ⟨S, ?_, ⟨by rw [hFr a (by omega) (by omega)]; exact hx0, by rw [hFr a (by omega) (by omega)]; exact q1, by rw [hFr a (by omega) (by omega)]; exact q2, by rw [hFr a (by omega) (by omega)]; exact q3, hS⟩, fun k hk => by rw [hFr k (by omega) (by omega), r4x k (by omega)]⟩
  refine run_of tb_X2_init (Nat.le_of_ble_eq_true rfl) ?_
  show ∃ ls', am_ev (am_run am_tb (d + 1)) tX2_init ([vR a, vU], [], GH (a + 1) L I R 0) = _
  apply Exists.intro
  unfold tX2_init
  apply t_Q
  · apply t_S
    refine x_aload_n rfl ?_
    refine g_super (Nat.le_of_ble_eq_true rfl) ?_
    refine x_aload_n rfl ?_
    refine x_iconst ?_
    refine g_an t1 (by decide) ((ln_k (by omega)).trans l1) rfl (by decide) (fr_n hf (Nat.le_refl _) t1 (by decide)) ?_
    refine g_pr (by omega) t0 rfl ?_
    rw [← e1]
    refine x_aload_n rfl ?_
    refine x_iconst ?_
    refine g_na t2 (Or.inl rfl) ((ln_k (by omega)).trans l2) rfl (by decide) (fr_i f1 (Nat.le_refl _)) ?_
    refine g_pr (by omega) t0 rfl ?_
    rw [← e2]
    refine x_aload_n rfl ?_
    refine x_iconst ?_
    refine g_na t3 (Or.inl rfl) ((ln_k (by omega)).trans l3) rfl (by decide) (fr_i f2 (Nat.le_refl _)) ?_
    refine g_pr (by omega) t0 rfl ?_
    rw [← e3]
    refine x_aload_n rfl ?_
    refine x_bipush ?_
    refine g_na t4 (Or.inl rfl) ((ln_k (by omega)).trans l4) rfl (by decide) (fr_i f3 (Nat.le_refl _)) ?_
    refine g_pr (by omega) t0 rfl ?_
    rw [← e4]
    refine x_aload_n rfl ?_
    refine x_iconst ?_
    refine g_pi (by omega) t0 rfl rfl ?_
    rw [← eJ]
    refine x_aload_n rfl ?_
    refine x_iconst ?_
    refine g_p0 (by omega) t0 rfl rfl (by rw [eJ, au_s, au_n _ _ (by decide)]; exact hI 5) ?_
    refine x_iconst ?_
    refine x_istore_n rfl ?_
    exact rfl
  apply t_Q
  · apply t_K
    apply t_W
    exact hl
  apply t_B
  · exact rfl
  exact rfl
