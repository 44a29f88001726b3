/-! Constructors: operators, states, bases. Written by wip/whole/gen_bf.py. -/
/-- from n on nothing has been written -/
def Fsh (n : Nat) (I : Nat → Nat → Int) (R : Nat → Nat → Option Nat) : Prop := ∀ k, n ≤ k → (∀ i, I k i = 0) ∧ ∀ i, R k i = if tg k = 22 then some (k + 1 + i) else none
theorem fsh_m {n m : Nat} {I : Nat → Nat → Int} {R : Nat → Nat → Option Nat} (h : Fsh n I R) (hm : n ≤ m) : Fsh m I R := fun k hk => h k (by omega)
theorem fsh_p {n a : Nat} {I : Nat → Nat → Int} {R : Nat → Nat → Option Nat} {f : Nat → Option Nat} (h : Fsh n I R) (ha : a < n) : Fsh n I (au R a f) := fun k hk => by rw [au_n _ _ (by omega)]; exact h k hk
theorem fsh_c {n m : Nat} {I J : Nat → Nat → Int} {R S : Nat → Nat → Option Nat} (h : Fsh n I R) (hm : n ≤ m) (h1 : ∀ k, m ≤ k → J k = I k) (h2 : ∀ k, m ≤ k → S k = R k) : Fsh m J S := fun k hk => by rw [h1 k hk, h2 k hk]; exact h k (by omega)
theorem fr_i {n k : Nat} {I : Nat → Nat → Int} {R : Nat → Nat → Option Nat} (h : Fsh n I R) (hk : n ≤ k) : ∀ i, I k i = 0 := (h k hk).1
theorem fr_n {n k t : Nat} {I : Nat → Nat → Int} {R : Nat → Nat → Option Nat} (h : Fsh n I R) (hk : n ≤ k) (ht : tg k = t) (h2 : t ≠ 22) : ∀ i, R k i = none := fun i => by rw [(h k hk).2 i, if_neg (by rw [ht]; exact h2)]
theorem fr_r {n k : Nat} {I : Nat → Nat → Int} {R : Nat → Nat → Option Nat} (h : Fsh n I R) (hk : n ≤ k) (ht : tg k = 22) : ∀ i, R k i = some (k + 1 + i) := fun i => by rw [(h k hk).2 i, if_pos ht]
theorem ln_k {L k : Nat} (h : k ≠ 0) : ln L k = ly_n.getD k 0 := if_neg h
theorem aup {R : Nat → Nat → Option Nat} {a f : Nat} {v : Option Nat} : au R a (au (R a) f v) a f = v := by rw [au_s, au_s]
theorem aun {R : Nat → Nat → Option Nat} {a f g : Nat} {v : Option Nat} (h : g ≠ f) : au R a (au (R a) f v) a g = R a g := by rw [au_s, au_n _ _ h]
/-- an operator -/
theorem c_op {d L n a : Nat} {I : Nat → Nat → Int} {R : Nat → Nat → Option Nat} {u : Int64} (ha : a < n) (hf : Fsh n I R) (t1 : tg a = 6) (t2 : tg n = 20) (l2 : ln L n = 91) : am_run am_tb (d + 1) 44 [vR a] (GH n L I R u) = some ([], GH (n + 1) L I (au R a (au (R a) 0 (some n))) u) := by
  refine run_of tb_X6_init (Nat.le_of_ble_eq_true rfl) ?_
  show ∃ ls', am_ev (am_run am_tb d) tX6_init ([vR a], [], GH n L I R u) = _
  apply Exists.intro
  unfold tX6_init
  apply t_B
  · refine x_aload_n rfl ?_
    refine g_super (Nat.le_of_ble_eq_true rfl) ?_
    refine x_aload_n rfl ?_
    refine x_bipush ?_
    refine g_na t2 (Or.inl rfl) l2 rfl (by decide) (fr_i hf (Nat.le_refl _)) ?_
    refine g_pr (by omega) t1 rfl ?_
    exact rfl
  exact rfl
/-- how a state lies -/
def Ls8 (x : Nat) : Prop := 0 < x ∧ (tg x = 8 ∧ ly_n.getD x 0 = 3) ∧ (tg (x + 1) = 23 ∧ ly_n.getD (x + 1) 0 = 6) ∧ (tg (x + 2) = 22 ∧ ly_n.getD (x + 2) 0 = 2) ∧ (∀ f, f < 2 → tg (x + 3 + f) = 20 ∧ ly_n.getD (x + 3 + f) 0 = 31) ∧ ∀ s, s < 6 → (tg (x + 5 + 2 * s) = 6 ∧ ly_n.getD (x + 5 + 2 * s) 0 = 1) ∧ tg (x + 6 + 2 * s) = 20 ∧ ly_n.getD (x + 6 + 2 * s) 0 = 91
theorem ls_all : Ls8 4 ∧ ∀ k, k < 5 → Ls8 (23 + 17 * k) := by unfold Ls8; decide +kernel
/-- the references of a state -/
def Sf8 (R : Nat → Nat → Option Nat) (x : Nat) : Prop := R x 0 = some (x + 1) ∧ R x 1 = some (x + 2) ∧ (∀ s, s < 6 → R (x + 1) s = some (x + 5 + 2 * s) ∧ R (x + 5 + 2 * s) 0 = some (x + 6 + 2 * s)) ∧ ∀ f, R (x + 2) f = some (x + 3 + f)
theorem Sf8_c {R S : Nat → Nat → Option Nat} {x : Nat} (h : Sf8 R x) (e : ∀ k, x ≤ k → k < x + 17 → S k = R k) : Sf8 S x := ⟨by rw [e x (by omega) (by omega)]; exact h.1, by rw [e x (by omega) (by omega)]; exact h.2.1, fun s hs => by rw [e (x + 1) (by omega) (by omega), e (x + 5 + 2 * s) (by omega) (by omega)]; exact h.2.2.1 s hs, fun f => by rw [e (x + 2) (by omega) (by omega)]; exact h.2.2.2 f⟩
theorem c_state {d L x : Nat} {I : Nat → Nat → Int} {R : Nat → Nat → Option Nat} (hx : Ls8 x) (hf : Fsh (x + 1) I R) (hI : ∀ i, I x i = 0) : ∃ S, am_run am_tb (d + 2) 73 [vR x] (GH (x + 1) L I R 0) = some ([], GH (x + 17) L I S 0) ∧ Sf8 S x ∧ ∀ k, ¬ (x ≤ k ∧ k < x + 17) → S k = R k := by
  obtain ⟨h0, ⟨t0, l0⟩, ⟨t1, l1⟩, ⟨t2, l2⟩, h3, h5⟩ := hx
  obtain ⟨R1, e1⟩ : ∃ Q, Q = au R x (au (R x) 0 (some (x + 1))) := ⟨_, rfl⟩
  obtain ⟨R2, e2⟩ : ∃ Q, Q = au R1 x (au (R1 x) 1 (some (x + 2))) := ⟨_, rfl⟩
  have f1 : Fsh (x + 2) I R1 := by rw [e1]; exact fsh_p (fsh_m hf (by omega)) (by omega)
  have f2 : Fsh (x + 5) I R2 := by rw [e2]; exact fsh_p (fsh_m f1 (by omega)) (by omega)
  have r2x : ∀ k, k ≠ x → R2 k = R k := fun k hk => by rw [e2, au_n _ _ hk, e1, au_n _ _ hk]
  have hlp : ∃ r, am_lp (am_ev (am_run am_tb (d + 1)) wX8_init_31) 31 am_F ([vR x, vI (0 : Nat)], [], GH (x + 5) L I R2 0) = some r ∧ ∃ S, r = (58, [vR x, vI (6 : Nat)], [], GH (x + 17) L I S 0) ∧ (∀ s, s < 6 → S (x + 1) s = some (x + 5 + 2 * s) ∧ S (x + 5 + 2 * s) 0 = some (x + 6 + 2 * s)) ∧ (∀ k, k ≠ x + 1 → ¬ (x + 5 ≤ k ∧ k < x + 17) → S k = R2 k) := by
    refine lp_inv (fun s y => ∃ S, y = ([vR x, vI (s : Nat)], [], GH (x + 5 + 2 * s) L I S 0) ∧ (∀ t, t < s → S (x + 1) t = some (x + 5 + 2 * t) ∧ S (x + 5 + 2 * t) 0 = some (x + 6 + 2 * t)) ∧ ∀ k, k ≠ x + 1 → ¬ (x + 5 ≤ k ∧ k < x + 5 + 2 * s) → S k = R2 k) _ 6 ⟨R2, rfl, fun t ht => absurd ht (Nat.not_lt_zero _), fun _ _ _ => rfl⟩ (ltF (by omega)) (fun s y hs hy => ?_) (fun y hy => ?_)
    · obtain ⟨S, ey, hS, hFr⟩ := hy
      subst ey
      obtain ⟨⟨p1, p2⟩, p3, p4⟩ := h5 s hs
      have fS : Fsh (x + 5 + 2 * s) I S := fsh_c f2 (by omega) (fun _ _ => rfl) (fun k hk => hFr k (by omega) (by omega))
      have hop := c_op (d := d) (L := L) (n := x + 5 + 2 * s + 1) (a := x + 5 + 2 * s) (I := I) (R := S) (u := 0) (by omega) (fsh_m fS (by omega)) p1 (by rw [show x + 5 + 2 * s + 1 = x + 6 + 2 * s by omega]; exact p3) (by rw [ln_k (by omega), show x + 5 + 2 * s + 1 = x + 6 + 2 * s by omega]; exact p4)
      obtain ⟨S1, g1⟩ : ∃ Q, Q = au S (x + 5 + 2 * s) (au (S (x + 5 + 2 * s)) 0 (some (x + 5 + 2 * s + 1))) := ⟨_, rfl⟩
      obtain ⟨S2, g2⟩ : ∃ Q, Q = au S1 (x + 1) (au (S1 (x + 1)) s (some (x + 5 + 2 * s))) := ⟨_, rfl⟩
      rw [← g1] at hop
      have hx0 : S x 0 = some (x + 1) := by rw [hFr x (by omega) (by omega), e2, aun (by decide), e1, aup]
      refine ⟨([vR x, vI (s + 1 : Nat)], [], GH (x + 5 + 2 * (s + 1)) L I S2 0), ?_, S2, rfl, fun t ht => ?_, fun k h1 h2 => ?_⟩
      · unfold wX8_init_31
        apply t_Q
        · apply t_B
          · refine x_iload_n rfl ?_
            refine x_bipush ?_
            exact rfl
          exact t_ic_ge_f (by omega)
        apply t_B
        · refine x_aload_n rfl ?_
          refine g_gr (by omega) t0 rfl hx0 ?_
          refine x_iload_n rfl ?_
          refine g_new p1 (by decide) (by rw [ln_k (by omega)]; exact p2) (fr_i fS (Nat.le_refl _)) (fr_n fS (Nat.le_refl _) p1 (by decide)) rfl ?_
          refine x_dup rfl ?_
          refine g_spec (vs := []) (by decide) (by omega) p1 rfl (Nat.le_of_ble_eq_true rfl) hop ?_
          refine g_aast (by omega) (by omega) t1 ⟨by decide, by decide, p1⟩ ((ln_k (by omega)).trans l1) (by omega) ?_
          rw [Int.toNat_natCast, ← g2]
          refine x_iinc rfl rfl ?_
          exact rfl
        exact t_goeq rfl
      · by_cases c : t = s
        · rw [c, g2]
          refine ⟨aup, ?_⟩
          rw [au_n _ _ (by omega), g1, aup, show x + 5 + 2 * s + 1 = x + 6 + 2 * s by omega]
        · rw [g2, aun c, au_n _ _ (by omega), g1, au_n _ _ (by omega), au_n _ _ (by omega)]
          exact hS t (by omega)
      · rw [g2, au_n _ _ h1, g1, au_n _ _ (by omega)]
        exact hFr k h1 (by omega)
    · obtain ⟨S, ey, hS, hFr⟩ := hy
      subst ey
      refine ⟨(58, [vR x, vI (6 : Nat)], [], GH (x + 5 + 2 * 6) L I S 0), ?_, by show ¬ 58 = 31 + 2; decide, S, rfl, hS, fun k h1 h2 => hFr k h1 (by omega)⟩
      unfold wX8_init_31
      apply t_Qs
      apply t_B
      · refine x_iload_n rfl ?_
        refine x_bipush ?_
        exact rfl
      exact t_ic_ge_t (by omega)
  obtain ⟨r, hl, S, er, hS, hFr⟩ := hlp
  subst er
  refine ⟨S, ?_, ⟨?_, ?_, hS, fun f => ?_⟩, fun k hk => ?_⟩
  · refine run_of tb_X8_init (Nat.le_of_ble_eq_true rfl) ?_
    show ∃ ls', am_ev (am_run am_tb (d + 1)) tX8_init ([vR x, vU], [], GH (x + 1) L I R 0) = _
    apply Exists.intro
    unfold tX8_init
    apply t_Q
    · apply t_S
      refine x_aload_n rfl ?_
      refine g_super (Nat.le_of_ble_eq_true rfl) ?_
      refine x_aload_n rfl ?_
      refine x_bipush ?_
      refine g_an t1 (by decide) ((ln_k (by omega)).trans l1) rfl (by decide) (fr_n hf (Nat.le_refl _) t1 (by decide)) ?_
      refine g_pr (by omega) t0 rfl ?_
      rw [← e1]
      refine x_aload_n rfl ?_
      refine x_iconst ?_
      refine x_bipush ?_
      refine g_rows t2 ((ln_k (by omega)).trans l2) rfl rfl (by decide) (fr_r f1 (Nat.le_refl _) t2) (fun k k1 k2 => ?_) ?_
      · have := h3 (k - (x + 3)) (by omega)
        rw [show x + 3 + (k - (x + 3)) = k by omega] at this
        exact ⟨this.1, (ln_k (by omega)).trans this.2, fr_i f1 (by omega)⟩
      refine g_pr (by omega) t0 rfl ?_
      rw [← e2]
      refine x_aload_n rfl ?_
      refine x_iconst ?_
      refine g_p0 (by omega) t0 rfl rfl (hI 2) ?_
      refine x_iconst ?_
      refine x_istore_n rfl ?_
      exact rfl
    apply t_Q
    · apply t_K
      apply t_W
      exact hl
    apply t_B
    · exact rfl
    exact rfl
  · rw [hFr x (by omega) (by omega), e2, aun (by decide), e1, aup]
  · rw [hFr x (by omega) (by omega), e2, aup]
  · rw [hFr (x + 2) (by omega) (by omega), r2x _ (by omega), fr_r hf (by omega) t2]
  · rw [hFr k (by omega) (by omega), r2x k (by omega)]
