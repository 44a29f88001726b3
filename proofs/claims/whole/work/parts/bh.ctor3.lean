/-! Constructors: text, divider, completion, action, reader, writer. Written by wip/whole/gen_bh.py. -/
theorem c_text {d L : Nat} {I : Nat → Nat → Int} {R : Nat → Nat → Option Nat} (hf : Fsh 109 I R) (hI : ∀ i, I 108 i = 0) : ∃ S, am_run am_tb (d + 1) 75 [vR 108] (GH 109 L I R 0) = some ([], GH 110 L I S 0) ∧ (S 108 0 = some 109) ∧ ∀ k, ¬ (108 ≤ k ∧ k < 110) → S k = R k := by
  obtain ⟨R1, e1⟩ : ∃ Q, Q = au R 108 (au (R 108) 0 (some 109)) := ⟨_, rfl⟩
  have f1 : Fsh 110 I R1 := by rw [e1]; exact fsh_p (fsh_m hf (by omega)) (by omega)
  refine ⟨R1, ?_, by rw [e1, aup], fun k hk => by rw [e1, au_n _ _ (by omega)]⟩
  refine run_of tb_X9_init (Nat.le_of_ble_eq_true rfl) ?_
  show ∃ ls', am_ev (am_run am_tb d) tX9_init ([vR 108], [], GH 109 L I R 0) = _
  apply Exists.intro
  unfold tX9_init
  apply t_B
  · refine x_aload_n rfl ?_
    refine g_super (Nat.le_of_ble_eq_true rfl) ?_
    refine x_aload_n rfl ?_
    refine x_bipush ?_
    refine g_na tg_109 (Or.inl rfl) (ln_109 L) rfl (by decide) (fr_i hf (by omega)) ?_
    refine g_pr (by omega) tg_108 rfl ?_
    rw [← e1]
    refine x_aload_n rfl ?_
    refine x_iconst ?_
    refine g_p0 (by omega) tg_108 rfl rfl (hI 1) ?_
    refine x_aload_n rfl ?_
    refine x_iconst ?_
    refine g_p0 (by omega) tg_108 rfl rfl (hI 2) ?_
    refine x_aload_n rfl ?_
    refine x_iconst ?_
    refine g_p0 (by omega) tg_108 rfl rfl (hI 3) ?_
    exact rfl
  exact rfl
theorem c_div {d L : Nat} {I : Nat → Nat → Int} {R : Nat → Nat → Option Nat} (hf : Fsh 160 I R) (hI : ∀ i, I 159 i = 0) : ∃ S, am_run am_tb (d + 1) 36 [vR 159, vR 110] (GH 160 L I R 0) = some ([], GH 165 L I S 0) ∧ (S 159 1 = some 160 ∧ S 159 2 = some 161 ∧ S 159 3 = some 162 ∧ S 159 4 = some 163 ∧ S 159 5 = some 164 ∧ S 159 0 = some 110) ∧ ∀ k, ¬ (159 ≤ k ∧ k < 165) → S k = R k := by
  obtain ⟨R1, e1⟩ : ∃ Q, Q = au R 159 (au (R 159) 1 (some 160)) := ⟨_, rfl⟩
  have f1 : Fsh 161 I R1 := by rw [e1]; exact fsh_p (fsh_m hf (by omega)) (by omega)
  obtain ⟨R2, e2⟩ : ∃ Q, Q = au R1 159 (au (R1 159) 2 (some 161)) := ⟨_, rfl⟩
  have f2 : Fsh 162 I R2 := by rw [e2]; exact fsh_p (fsh_m f1 (by omega)) (by omega)
  obtain ⟨R3, e3⟩ : ∃ Q, Q = au R2 159 (au (R2 159) 3 (some 162)) := ⟨_, rfl⟩
  have f3 : Fsh 163 I R3 := by rw [e3]; exact fsh_p (fsh_m f2 (by omega)) (by omega)
  obtain ⟨R4, e4⟩ : ∃ Q, Q = au R3 159 (au (R3 159) 4 (some 163)) := ⟨_, rfl⟩
  have f4 : Fsh 164 I R4 := by rw [e4]; exact fsh_p (fsh_m f3 (by omega)) (by omega)
  obtain ⟨R5, e5⟩ : ∃ Q, Q = au R4 159 (au (R4 159) 5 (some 164)) := ⟨_, rfl⟩
  have f5 : Fsh 165 I R5 := by rw [e5]; exact fsh_p (fsh_m f4 (by omega)) (by omega)
  obtain ⟨R6, e6⟩ : ∃ Q, Q = au R5 159 (au (R5 159) 0 (some 110)) := ⟨_, rfl⟩
  have f6 : Fsh 165 I R6 := by rw [e6]; exact fsh_p (fsh_m f5 (by omega)) (by omega)
  refine ⟨R6, ?_, ⟨by rw [e6, aun (by decide), e5, aun (by decide), e4, aun (by decide), e3, aun (by decide), e2, aun (by decide), e1, aup], by rw [e6, aun (by decide), e5, aun (by decide), e4, aun (by decide), e3, aun (by decide), e2, aup], by rw [e6, aun (by decide), e5, aun (by decide), e4, aun (by decide), e3, aup], by rw [e6, aun (by decide), e5, aun (by decide), e4, aup], by rw [e6, aun (by decide), e5, aup], by rw [e6, aup]⟩, fun k hk => by rw [e6, au_n _ _ (by omega), e5, au_n _ _ (by omega), e4, au_n _ _ (by omega), e3, au_n _ _ (by omega), e2, au_n _ _ (by omega), e1, au_n _ _ (by omega)]⟩
  refine run_of tb_X4_init (Nat.le_of_ble_eq_true rfl) ?_
  show ∃ ls', am_ev (am_run am_tb d) tX4_init ([vR 159, vR 110], [], GH 160 L I R 0) = _
  apply Exists.intro
  unfold tX4_init
  apply t_B
  · refine x_aload_n rfl ?_
    refine g_super (Nat.le_of_ble_eq_true rfl) ?_
    refine x_aload_n rfl ?_
    refine x_bipush ?_
    refine g_an tg_160 (by decide) (ln_160 L) rfl (by decide) (fr_n hf (by omega) tg_160 (by decide)) ?_
    refine g_pr (by omega) tg_159 rfl ?_
    rw [← e1]
    refine x_aload_n rfl ?_
    refine x_bipush ?_
    refine g_na tg_161 (Or.inl rfl) (ln_161 L) rfl (by decide) (fr_i f1 (by omega)) ?_
    refine g_pr (by omega) tg_159 rfl ?_
    rw [← e2]
    refine x_aload_n rfl ?_
    refine x_bipush ?_
    refine g_na tg_162 (Or.inl rfl) (ln_162 L) rfl (by decide) (fr_i f2 (by omega)) ?_
    refine g_pr (by omega) tg_159 rfl ?_
    rw [← e3]
    refine x_aload_n rfl ?_
    refine x_bipush ?_
    refine g_na tg_163 (Or.inl rfl) (ln_163 L) rfl (by decide) (fr_i f3 (by omega)) ?_
    refine g_pr (by omega) tg_159 rfl ?_
    rw [← e4]
    refine x_aload_n rfl ?_
    refine x_bipush ?_
    refine g_na tg_164 (Or.inl rfl) (ln_164 L) rfl (by decide) (fr_i f4 (by omega)) ?_
    refine g_pr (by omega) tg_159 rfl ?_
    rw [← e5]
    refine x_aload_n rfl ?_
    refine x_iconst ?_
    refine g_p0 (by omega) tg_159 rfl rfl (hI 6) ?_
    refine x_aload_n rfl ?_
    refine x_iconst ?_
    refine g_p0 (by omega) tg_159 rfl rfl (hI 7) ?_
    refine x_aload_n rfl ?_
    refine x_aload_n rfl ?_
    refine g_pr (by omega) tg_159 rfl ?_
    rw [← e6]
    exact rfl
  exact rfl
theorem c_wr {d L : Nat} {I : Nat → Nat → Int} {R : Nat → Nat → Option Nat} (hf : Fsh 298 I R) (hI : ∀ i, I 297 i = 0) : ∃ S, am_run am_tb (d + 1) 86 [vR 297] (GH 298 L I R 0) = some ([], GH 299 L I S 0) ∧ (S 297 0 = some 298) ∧ ∀ k, ¬ (297 ≤ k ∧ k < 299) → S k = R k := by
  obtain ⟨R1, e1⟩ : ∃ Q, Q = au R 297 (au (R 297) 0 (some 298)) := ⟨_, rfl⟩
  have f1 : Fsh 299 I R1 := by rw [e1]; exact fsh_p (fsh_m hf (by omega)) (by omega)
  refine ⟨R1, ?_, by rw [e1, aup], fun k hk => by rw [e1, au_n _ _ (by omega)]⟩
  refine run_of tb_X10_init (Nat.le_of_ble_eq_true rfl) ?_
  show ∃ ls', am_ev (am_run am_tb d) tX10_init ([vR 297], [], GH 298 L I R 0) = _
  apply Exists.intro
  unfold tX10_init
  apply t_B
  · refine x_aload_n rfl ?_
    refine g_super (Nat.le_of_ble_eq_true rfl) ?_
    refine x_aload_n rfl ?_
    refine x_bipush ?_
    refine g_na tg_298 (Or.inl rfl) (ln_298 L) rfl (by decide) (fr_i hf (by omega)) ?_
    refine g_pr (by omega) tg_297 rfl ?_
    rw [← e1]
    refine x_aload_n rfl ?_
    refine x_iconst ?_
    refine g_p0 (by omega) tg_297 rfl rfl (hI 1) ?_
    exact rfl
  exact rfl
theorem ly_236 : ∀ k, 237 ≤ k → k < 253 → tg k = 20 ∧ ly_n.getD k 0 = 31 := fun k h1 h2 => by
  have key : ∀ j, j < 16 → tg (237 + j) = 20 ∧ ly_n.getD (237 + j) 0 = 31 := by decide +kernel
  have := key (k - 237) (by omega)
  rw [show 237 + (k - 237) = k by omega] at this
  exact this
theorem c_act {d L : Nat} {I : Nat → Nat → Int} {R : Nat → Nat → Option Nat} (hf : Fsh 236 I R) (h1 : R 110 1 = some 125) : ∃ S, am_run am_tb (d + 1) 0 [vR 235, vR 110] (GH 236 L I R 0) = some ([], GH 254 L I S 0) ∧ (S 235 0 = some 125 ∧ S 235 1 = some 236 ∧ S 235 2 = some 253) ∧ ∀ k, k ≠ 235 → S k = R k := by
  obtain ⟨R1, e1⟩ : ∃ Q, Q = au R 235 (au (R 235) 1 (some 236)) := ⟨_, rfl⟩
  have f1 : Fsh 253 I R1 := by rw [e1]; exact fsh_p (fsh_m hf (by omega)) (by omega)
  obtain ⟨R2, e2⟩ : ∃ Q, Q = au R1 235 (au (R1 235) 2 (some 253)) := ⟨_, rfl⟩
  have f2 : Fsh 254 I R2 := by rw [e2]; exact fsh_p (fsh_m f1 (by omega)) (by omega)
  obtain ⟨R3, e3⟩ : ∃ Q, Q = au R2 235 (au (R2 235) 0 (some 125)) := ⟨_, rfl⟩
  have f3 : Fsh 254 I R3 := by rw [e3]; exact fsh_p (fsh_m f2 (by omega)) (by omega)
  refine ⟨R3, ?_, ⟨by rw [e3, aup], by rw [e3, aun (by decide), e2, aun (by decide), e1, aup], by rw [e3, aun (by decide), e2, aup]⟩, fun k hk => by rw [e3, au_n _ _ (by omega), e2, au_n _ _ (by omega), e1, au_n _ _ (by omega)]⟩
  refine run_of tb_X0_init (Nat.le_of_ble_eq_true rfl) ?_
  show ∃ ls', am_ev (am_run am_tb d) tX0_init ([vR 235, vR 110], [], GH 236 L I R 0) = _
  apply Exists.intro
  unfold tX0_init
  apply t_B
  · refine x_aload_n rfl ?_
    refine g_super (Nat.le_of_ble_eq_true rfl) ?_
    refine x_aload_n rfl ?_
    refine x_bipush ?_
    refine x_bipush ?_
    refine g_rows tg_236 (ln_236 L) rfl rfl (by decide) (fr_r hf (by omega) tg_236) (fun k k1 k2 => ⟨(ly_236 k k1 k2).1, (ln_k (by omega)).trans (ly_236 k k1 k2).2, fr_i hf (by omega)⟩) ?_
    refine g_pr (by omega) tg_235 rfl ?_
    rw [← e1]
    refine x_aload_n rfl ?_
    refine x_bipush ?_
    refine g_na tg_253 (Or.inl rfl) (ln_253 L) rfl (by decide) (fr_i f1 (by omega)) ?_
    refine g_pr (by omega) tg_235 rfl ?_
    rw [← e2]
    refine x_aload_n rfl ?_
    refine x_aload_n rfl ?_
    refine g_gr (by omega) tg_110 rfl (by rw [e2, au_n _ _ (by decide), e1, au_n _ _ (by decide)]; exact h1) ?_
    refine g_pr (by omega) tg_235 rfl ?_
    rw [← e3]
    exact rfl
  exact rfl
theorem lr_all : ∀ s, s < 6 → (tg (223 + 2 * s) = 6 ∧ ly_n.getD (223 + 2 * s) 0 = 1) ∧ tg (223 + 2 * s + 1) = 20 ∧ ly_n.getD (223 + 2 * s + 1) 0 = 91 := by decide +kernel
/-- the order of each new basis is -1 -/
def bI (I : Nat → Nat → Int) : Nat → Nat → Nat → Int
  | 0 => I
  | k + 1 => au (bI I k) (171 + 13 * k) (au (bI I k (171 + 13 * k)) 4 (-1))
theorem bI_o {I : Nat → Nat → Int} {n a : Nat} (h : ∀ k, k < n → a ≠ 171 + 13 * k) : bI I n a = I a := by
  induction n with
  | zero => rfl
  | succ n ih =>
    show au (bI I n) (171 + 13 * n) _ a = _
    rw [au_n _ _ (h n (by omega))]
    exact ih (fun k hk => h k (by omega))
theorem bI_k {I : Nat → Nat → Int} {n k : Nat} (hk : k < n) : bI I n (171 + 13 * k) = au (I (171 + 13 * k)) 4 (-1) := by
  induction n with
  | zero => omega
  | succ n ih =>
    show au (bI I n) (171 + 13 * n) _ (171 + 13 * k) = _
    by_cases e : k = n
    · rw [e, au_s, bI_o (fun j hj => by omega)]
    · rw [au_n _ _ (by omega)]; exact ih (by omega)
theorem c_com {d L : Nat} {I : Nat → Nat → Int} {R : Nat → Nat → Option Nat} (hf : Fsh 166 I R) (hI : ∀ i, I 165 i = 0) : ∃ S, am_run am_tb (d + 3) 24 [vR 165, vR 110, vR 159] (GH 166 L I R 0) = some ([], GH 235 L (bI I 4) S 0) ∧ (S 165 0 = some 110 ∧ S 165 1 = some 159 ∧ S 165 2 = some 166 ∧ S 165 4 = some 167 ∧ S 165 5 = some 168 ∧ S 165 6 = some 169 ∧ S 165 7 = some 170) ∧ (∀ k, k < 4 → S 166 k = some (171 + 13 * k) ∧ Bf2 S (171 + 13 * k)) ∧ (∀ s, s < 6 → S 167 s = some (223 + 2 * s) ∧ S (223 + 2 * s) 0 = some (223 + 2 * s + 1)) ∧ ∀ k, ¬ (165 ≤ k ∧ k < 235) → S k = R k := by
  obtain ⟨R1, e1⟩ : ∃ Q, Q = au R 165 (au (R 165) 2 (some 166)) := ⟨_, rfl⟩
  have f1 : Fsh 167 I R1 := by rw [e1]; exact fsh_p (fsh_m hf (by omega)) (by omega)
  obtain ⟨R2, e2⟩ : ∃ Q, Q = au R1 165 (au (R1 165) 4 (some 167)) := ⟨_, rfl⟩
  have f2 : Fsh 168 I R2 := by rw [e2]; exact fsh_p (fsh_m f1 (by omega)) (by omega)
  obtain ⟨R3, e3⟩ : ∃ Q, Q = au R2 165 (au (R2 165) 5 (some 168)) := ⟨_, rfl⟩
  have f3 : Fsh 169 I R3 := by rw [e3]; exact fsh_p (fsh_m f2 (by omega)) (by omega)
  obtain ⟨R4, e4⟩ : ∃ Q, Q = au R3 165 (au (R3 165) 6 (some 169)) := ⟨_, rfl⟩
  have f4 : Fsh 170 I R4 := by rw [e4]; exact fsh_p (fsh_m f3 (by omega)) (by omega)
  obtain ⟨R5, e5⟩ : ∃ Q, Q = au R4 165 (au (R4 165) 7 (some 170)) := ⟨_, rfl⟩
  have f5 : Fsh 171 I R5 := by rw [e5]; exact fsh_p (fsh_m f4 (by omega)) (by omega)
  obtain ⟨R6, e6⟩ : ∃ Q, Q = au R5 165 (au (R5 165) 0 (some 110)) := ⟨_, rfl⟩
  have f6 : Fsh 171 I R6 := by rw [e6]; exact fsh_p (fsh_m f5 (by omega)) (by omega)
  obtain ⟨R7, e7⟩ : ∃ Q, Q = au R6 165 (au (R6 165) 1 (some 159)) := ⟨_, rfl⟩
  have f7 : Fsh 171 I R7 := by rw [e7]; exact fsh_p (fsh_m f6 (by omega)) (by omega)
  have rx : ∀ k, k ≠ 165 → R7 k = R k := fun k hk => by rw [e7, au_n _ _ (by omega), e6, au_n _ _ (by omega), e5, au_n _ _ (by omega), e4, au_n _ _ (by omega), e3, au_n _ _ (by omega), e2, au_n _ _ (by omega), e1, au_n _ _ (by omega)]
  have q0 : R7 165 0 = some 110 := by rw [e7, aun (by decide), e6, aup]
  have q1 : R7 165 1 = some 159 := by rw [e7, aup]
  have q2 : R7 165 2 = some 166 := by rw [e7, aun (by decide), e6, aun (by decide), e5, aun (by decide), e4, aun (by decide), e3, aun (by decide), e2, aun (by decide), e1, aup]
  have q4 : R7 165 4 = some 167 := by rw [e7, aun (by decide), e6, aun (by decide), e5, aun (by decide), e4, aun (by decide), e3, aun (by decide), e2, aup]
  have q5 : R7 165 5 = some 168 := by rw [e7, aun (by decide), e6, aun (by decide), e5, aun (by decide), e4, aun (by decide), e3, aup]
  have q6 : R7 165 6 = some 169 := by rw [e7, aun (by decide), e6, aun (by decide), e5, aun (by decide), e4, aup]
  have q7 : R7 165 7 = some 170 := by rw [e7, aun (by decide), e6, aun (by decide), e5, aup]
  have hlb : ∃ r, am_lp (am_ev (am_run am_tb (d + 2)) wX3_init_77) 77 am_F ([vR 165, vR 110, vR 159, vI (0 : Nat)], [], GH 171 L I R7 0) = some r ∧ ∃ S, r = (103, [vR 165, vR 110, vR 159, vI (4 : Nat)], [], GH 223 L (bI I 4) S 0) ∧ (∀ k, k < 4 → S 166 k = some (171 + 13 * k) ∧ Bf2 S (171 + 13 * k)) ∧ ∀ k, k ≠ 166 → ¬ (171 ≤ k ∧ k < 223) → S k = R7 k := by
    refine lp_inv (fun s y => ∃ S, y = ([vR 165, vR 110, vR 159, vI (s : Nat)], [], GH (171 + 13 * s) L (bI I s) S 0) ∧ (∀ t, t < s → S 166 t = some (171 + 13 * t) ∧ Bf2 S (171 + 13 * t)) ∧ ∀ k, k ≠ 166 → ¬ (171 ≤ k ∧ k < 171 + 13 * s) → S k = R7 k) _ 4 ⟨R7, rfl, fun t ht => absurd ht (Nat.not_lt_zero _), fun _ _ _ => rfl⟩ (ltF (by omega)) (fun s y hs hy => ?_) (fun y hy => ?_)
    · obtain ⟨S, ey, hS, hFr⟩ := hy
      subst ey
      have hl8 := lb_all s hs
      have fS : Fsh (171 + 13 * s) (bI I s) S := fsh_c f7 (by omega) (fun k hk => bI_o (fun j hj => by omega)) (fun k hk => hFr k (by omega) (by omega))
      obtain ⟨S1, hst, h8, hFr1⟩ := c_basis (d := d) (L := L) (I := bI I s) (R := S) hl8 (fsh_m fS (by omega)) (fr_i fS (Nat.le_refl _))
      obtain ⟨S2, g2⟩ : ∃ Q, Q = au S1 166 (au (S1 166) s (some (171 + 13 * s))) := ⟨_, rfl⟩
      have hx0 : S 165 2 = some 166 := by rw [hFr 165 (by omega) (by omega)]; exact q2
      refine ⟨([vR 165, vR 110, vR 159, vI (s + 1 : Nat)], [], GH (171 + 13 * (s + 1)) L (bI I (s + 1)) S2 0), ?_, S2, rfl, fun t ht => ?_, fun k h1 h2 => ?_⟩
      · unfold wX3_init_77
        apply t_Q
        · apply t_B
          · refine x_iload_n rfl ?_
            refine x_iconst ?_
            exact rfl
          exact t_ic_ge_f (by omega)
        apply t_B
        · refine x_aload_n rfl ?_
          refine g_gr (by omega) tg_165 rfl hx0 ?_
          refine x_iload_n rfl ?_
          refine g_new hl8.2.1.1 (by decide) ((ln_k (by omega)).trans hl8.2.1.2) (fr_i fS (Nat.le_refl _)) (fr_n fS (Nat.le_refl _) hl8.2.1.1 (by decide)) rfl ?_
          refine x_dup rfl ?_
          refine g_spec (vs := []) (by decide) (by omega) hl8.2.1.1 rfl (Nat.le_of_ble_eq_true rfl) hst ?_
          refine g_aast (by omega) (by omega) tg_166 ⟨by decide, by decide, hl8.2.1.1⟩ (ln_166 L) (by omega) ?_
          rw [Int.toNat_natCast, ← g2]
          refine x_iinc rfl rfl ?_
          exact rfl
        exact t_goeq rfl
      · by_cases c : t = s
        · rw [c, g2]
          exact ⟨aup, Bf2_c h8 (fun k h1 h2 => au_n _ _ (by omega))⟩
        · refine ⟨?_, Bf2_c (hS t (by omega)).2 (fun k h1 h2 => ?_)⟩
          · rw [g2, aun c, hFr1 166 (by omega)]; exact (hS t (by omega)).1
          · rw [g2, au_n _ _ (by omega), hFr1 k (by omega)]
      · rw [g2, au_n _ _ h1, hFr1 k (by omega)]
        exact hFr k h1 (by omega)
    · obtain ⟨S, ey, hS, hFr⟩ := hy
      subst ey
      refine ⟨(103, [vR 165, vR 110, vR 159, vI (4 : Nat)], [], GH 223 L (bI I 4) S 0), ?_, by show ¬ 103 = 77 + 2; decide, S, rfl, hS, fun k h1 h2 => hFr k h1 (by omega)⟩
      unfold wX3_init_77
      apply t_Qs
      apply t_B
      · refine x_iload_n rfl ?_
        refine x_iconst ?_
        exact rfl
      exact t_ic_ge_t (by omega)
  obtain ⟨rb, hlb, SB, erb, hSB, hFrB⟩ := hlb
  subst erb
  have fB : Fsh 223 (bI I 4) SB := fsh_c f7 (by omega) (fun k hk => bI_o (fun j hj => by omega)) (fun k hk => hFrB k (by omega) (by omega))
  have hx0 : SB 165 4 = some 167 := by rw [hFrB 165 (by omega) (by omega)]; exact q4
  have hlp : ∃ r, am_lp (am_ev (am_run am_tb ((d + 1) + 1)) wX3_init_103) 103 am_F ([vR 165, vR 110, vR 159, vI (0 : Nat)], [], GH 223 L (bI I 4) SB 0) = some r ∧ ∃ S, r = (128 + 2, [vR 165, vR 110, vR 159, vI (6 : Nat)], [], GH (223 + 2 * 6) L (bI I 4) S 0) ∧ (∀ s, s < 6 → S 167 s = some (223 + 2 * s) ∧ S (223 + 2 * s) 0 = some (223 + 2 * s + 1)) ∧ (∀ k, k ≠ 167 → ¬ (223 ≤ k ∧ k < 223 + 2 * 6) → S k = SB k) := by
    refine lp_inv (fun s y => ∃ S, y = ([vR 165, vR 110, vR 159, vI (s : Nat)], [], GH (223 + 2 * s) L (bI I 4) S 0) ∧ (∀ t, t < s → S 167 t = some (223 + 2 * t) ∧ S (223 + 2 * t) 0 = some (223 + 2 * t + 1)) ∧ ∀ k, k ≠ 167 → ¬ (223 ≤ k ∧ k < 223 + 2 * s) → S k = SB k) _ 6 ⟨SB, rfl, fun t ht => absurd ht (Nat.not_lt_zero _), fun _ _ _ => rfl⟩ (ltF (by omega)) (fun s y hs hy => ?_) (fun y hy => ?_)
    · obtain ⟨S, ey, hS, hFr⟩ := hy
      subst ey
      obtain ⟨⟨p1, p2⟩, p3, p4⟩ := lr_all s hs
      have fS : Fsh (223 + 2 * s) (bI I 4) S := fsh_c fB (by omega) (fun _ _ => rfl) (fun k hk => hFr k (by omega) (by omega))
      have hop := c_op (d := (d + 1)) (L := L) (n := 223 + 2 * s + 1) (a := 223 + 2 * s) (I := (bI I 4)) (R := S) (u := 0) (by omega) (fsh_m fS (by omega)) p1 p3 ((ln_k (by omega)).trans p4)
      obtain ⟨S1, g1⟩ : ∃ Q, Q = au S (223 + 2 * s) (au (S (223 + 2 * s)) 0 (some (223 + 2 * s + 1))) := ⟨_, rfl⟩
      obtain ⟨S2, g2⟩ : ∃ Q, Q = au S1 167 (au (S1 167) s (some (223 + 2 * s))) := ⟨_, rfl⟩
      rw [← g1] at hop
      have hx0' : S 165 4 = some 167 := by rw [hFr 165 (by omega) (by omega)]; exact hx0
      refine ⟨([vR 165, vR 110, vR 159, vI (s + 1 : Nat)], [], GH (223 + 2 * (s + 1)) L (bI I 4) S2 0), ?_, S2, rfl, fun t ht => ?_, fun k h1 h2 => ?_⟩
      · unfold wX3_init_103
        apply t_Q
        · apply t_B
          · refine x_iload_n rfl ?_
            refine x_bipush ?_
            exact rfl
          exact t_ic_ge_f (by omega)
        apply t_B
        · refine x_aload_n rfl ?_
          refine g_gr (by omega) tg_165 rfl hx0' ?_
          refine x_iload_n rfl ?_
          refine g_new p1 (by decide) ((ln_k (by omega)).trans p2) (fr_i fS (Nat.le_refl _)) (fr_n fS (Nat.le_refl _) p1 (by decide)) rfl ?_
          refine x_dup rfl ?_
          refine g_spec (vs := []) (by decide) (by omega) p1 rfl (Nat.le_of_ble_eq_true rfl) hop ?_
          refine g_aast (by omega) (by omega) tg_167 ⟨by decide, by decide, p1⟩ (ln_167 L) (by omega) ?_
          rw [Int.toNat_natCast, ← g2]
          refine x_iinc rfl rfl ?_
          exact rfl
        exact t_goeq rfl
      · by_cases c : t = s
        · rw [c, g2]
          refine ⟨aup, ?_⟩
          rw [au_n _ _ (by omega), g1, aup]
        · rw [g2, aun c, au_n _ _ (by omega), g1, au_n _ _ (by omega), au_n _ _ (by omega)]
          exact hS t (by omega)
      · rw [g2, au_n _ _ h1, g1, au_n _ _ (by omega)]
        exact hFr k h1 (by omega)
    · obtain ⟨S, ey, hS, hFr⟩ := hy
      subst ey
      refine ⟨(128 + 2, [vR 165, vR 110, vR 159, vI (6 : Nat)], [], GH (223 + 2 * 6) L (bI I 4) S 0), ?_, by show ¬ 128 + 2 = 103 + 2; decide, S, rfl, hS, fun k h1 h2 => hFr k h1 (by omega)⟩
      unfold wX3_init_103
      apply t_Qs
      apply t_B
      · refine x_iload_n rfl ?_
        refine x_bipush ?_
        exact rfl
      exact t_ic_ge_t (by omega)
  have hlp := hlp
  obtain ⟨r, hl, S, er, hS, hFr⟩ := hlp
  subst er
  refine ⟨S, ?_, ⟨?_, ?_, ?_, ?_, ?_, ?_, ?_⟩, fun k hk => ⟨?_, ?_⟩, hS, fun k hk => ?_⟩
  rotate_left
  · rw [hFr 165 (by omega) (by omega), hFrB 165 (by omega) (by omega)]; exact q0
  · rw [hFr 165 (by omega) (by omega), hFrB 165 (by omega) (by omega)]; exact q1
  · rw [hFr 165 (by omega) (by omega), hFrB 165 (by omega) (by omega)]; exact q2
  · rw [hFr 165 (by omega) (by omega), hFrB 165 (by omega) (by omega)]; exact q4
  · rw [hFr 165 (by omega) (by omega), hFrB 165 (by omega) (by omega)]; exact q5
  · rw [hFr 165 (by omega) (by omega), hFrB 165 (by omega) (by omega)]; exact q6
  · rw [hFr 165 (by omega) (by omega), hFrB 165 (by omega) (by omega)]; exact q7
  · rw [hFr 166 (by omega) (by omega)]; exact (hSB k hk).1
  · exact Bf2_c (hSB k hk).2 (fun j h1 h2 => hFr j (by omega) (by omega))
  · rw [hFr k (by omega) (by omega), hFrB k (by omega) (by omega), rx k (by omega)]
  refine run_of tb_X3_init (Nat.le_of_ble_eq_true rfl) ?_
  show ∃ ls', am_ev (am_run am_tb (d + 2)) tX3_init ([vR 165, vR 110, vR 159, vU], [], GH 166 L I R 0) = _
  apply Exists.intro
  unfold tX3_init
  apply t_Q
  · apply t_S
    refine x_aload_n rfl ?_
    refine g_super (Nat.le_of_ble_eq_true rfl) ?_
    refine x_aload_n rfl ?_
    refine x_iconst ?_
    refine g_an tg_166 (by decide) (ln_166 L) rfl (by decide) (fr_n hf (by omega) tg_166 (by decide)) ?_
    refine g_pr (by omega) tg_165 rfl ?_
    rw [← e1]
    refine x_aload_n rfl ?_
    refine x_iconst ?_
    refine g_p0 (by omega) tg_165 rfl rfl (hI 3) ?_
    refine x_aload_n rfl ?_
    refine x_bipush ?_
    refine g_an tg_167 (by decide) (ln_167 L) rfl (by decide) (fr_n f1 (by omega) tg_167 (by decide)) ?_
    refine g_pr (by omega) tg_165 rfl ?_
    rw [← e2]
    refine x_aload_n rfl ?_
    refine x_bipush ?_
    refine g_na tg_168 (Or.inl rfl) (ln_168 L) rfl (by decide) (fr_i f2 (by omega)) ?_
    refine g_pr (by omega) tg_165 rfl ?_
    rw [← e3]
    refine x_aload_n rfl ?_
    refine x_bipush ?_
    refine g_na tg_169 (Or.inl rfl) (ln_169 L) rfl (by decide) (fr_i f3 (by omega)) ?_
    refine g_pr (by omega) tg_165 rfl ?_
    rw [← e4]
    refine x_aload_n rfl ?_
    refine x_bipush ?_
    refine g_na tg_170 (Or.inr rfl) (ln_170 L) rfl (by decide) (fr_i f4 (by omega)) ?_
    refine g_pr (by omega) tg_165 rfl ?_
    rw [← e5]
    refine x_aload_n rfl ?_
    refine x_iconst ?_
    refine g_p0 (by omega) tg_165 rfl rfl (hI 8) ?_
    refine x_aload_n rfl ?_
    refine x_iconst ?_
    refine g_p0 (by omega) tg_165 rfl rfl (hI 9) ?_
    refine x_aload_n rfl ?_
    refine x_iconst ?_
    refine g_p0 (by omega) tg_165 rfl rfl (hI 10) ?_
    refine x_aload_n rfl ?_
    refine x_aload_n rfl ?_
    refine g_pr (by omega) tg_165 rfl ?_
    rw [← e6]
    refine x_aload_n rfl ?_
    refine x_aload_n rfl ?_
    refine g_pr (by omega) tg_165 rfl ?_
    rw [← e7]
    refine x_iconst ?_
    refine x_istore_n rfl ?_
    exact rfl
  apply t_Q
  · apply t_K
    apply t_W
    exact hlb
  apply t_Q
  · apply t_S
    refine x_iconst ?_
    refine x_istore_n rfl ?_
    exact rfl
  apply t_Q
  · apply t_K
    apply t_W
    exact hl
  apply t_B
  · exact rfl
  exact rfl
