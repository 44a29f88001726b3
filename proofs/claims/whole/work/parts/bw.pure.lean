/-! The end of the pure layer. Written by wip/whole/gen_bw.py. -/
theorem Cf_c {S T : Nat → Nat → Option Nat} (h : Cf S) (e : ∀ k, k < 301 → T k = S k) : Cf T := by
  obtain ⟨c0, c1, c2, c3, c4, c5, c6, c7, c8, c9, c10, c11, c12, c13, c14, c15, c16, c17, c18, c19, c20, c21, c22, c23, c24, c25, c26, c27, c28, c29, c30, c31, c32, c33, c34, c35, c36, c37, c38, c39, c40, c41, c42, c43, c44, c45, c46, c47, c48, c49⟩ := h
  exact ⟨by rw [e 3 (by decide)]; exact c0, by rw [e 3 (by decide)]; exact c1, by rw [e 3 (by decide)]; exact c2, by rw [e 3 (by decide)]; exact c3, by rw [e 3 (by decide)]; exact c4, by rw [e 3 (by decide)]; exact c5, by rw [e 3 (by decide)]; exact c6, by rw [e 3 (by decide)]; exact c7, by rw [e 3 (by decide)]; exact c8, by rw [e 3 (by decide)]; exact c9, Sf8_c c10 (fun k h1 h2 => e k (by omega)), by rw [e 21 (by decide)]; exact c11, fun k hk => ⟨by rw [e 22 (by decide)]; exact (c12 k hk).1, Sf8_c (c12 k hk).2 (fun j h1 h2 => e j (by omega))⟩, by rw [e 108 (by decide)]; exact c13, by rw [e 110 (by decide)]; exact c14, by rw [e 110 (by decide)]; exact c15, by rw [e 110 (by decide)]; exact c16, by rw [e 157 (by decide)]; exact c17, fun i => by rw [e 111 (by decide)]; exact c18 i, fun i => by rw [e 125 (by decide)]; exact c19 i, fun i => by rw [e 236 (by decide)]; exact c20 i, by rw [e 159 (by decide)]; exact c21, by rw [e 159 (by decide)]; exact c22, by rw [e 159 (by decide)]; exact c23, by rw [e 159 (by decide)]; exact c24, by rw [e 159 (by decide)]; exact c25, by rw [e 159 (by decide)]; exact c26, by rw [e 165 (by decide)]; exact c27, by rw [e 165 (by decide)]; exact c28, by rw [e 165 (by decide)]; exact c29, by rw [e 165 (by decide)]; exact c30, by rw [e 165 (by decide)]; exact c31, by rw [e 165 (by decide)]; exact c32, by rw [e 165 (by decide)]; exact c33, fun k hk => ⟨by rw [e 166 (by decide)]; exact (c34 k hk).1, Bf2_c (c34 k hk).2 (fun j h1 h2 => e j (by omega))⟩, fun s hs => ⟨by rw [e 167 (by decide)]; exact (c35 s hs).1, by rw [e (223 + 2 * s) (by omega)]; exact (c35 s hs).2⟩, by rw [e 235 (by decide)]; exact c36, by rw [e 235 (by decide)]; exact c37, by rw [e 235 (by decide)]; exact c38, by rw [e 254 (by decide)]; exact c39, by rw [e 254 (by decide)]; exact c40, by rw [e 254 (by decide)]; exact c41, by rw [e 254 (by decide)]; exact c42, by rw [e 254 (by decide)]; exact c43, by rw [e 254 (by decide)]; exact c44, by rw [e 257 (by decide)]; exact c45, by rw [e 259 (by decide)]; exact c46, fun t ht => Rf7_c (c47 t ht) (fun k h1 h2 => e k (by omega)) ht, by rw [e 297 (by decide)]; exact c48, by rw [e 299 (by decide)]; exact c49⟩
theorem l_step {L k : Nat} {xs : Nat → Int} (hL : L ≤ 3072) (hx : ∀ j, inR (xs j)) (hk : 6 * k + 6 ≤ L) {I : Nat → Nat → Int} {R : Nat → Nat → Option Nat} {u : Int64} {σ : Sg} (hs : Sok k σ) (hC : CI σ I R) (hR : RI σ I) (h0 : I 0 = xs) : ∃ I2 R2 u2 σ', am_ev (am_run am_tb 60) wL_law_18 ([vR 0, vR 3, vR 301, vI (6 * k : Nat)], [], LH L I R u) = some (18 + 2, [vR 0, vR 3, vR 301, vI (6 * (k + 1) : Nat)], [], LH L I2 R2 u2) ∧ Sok (k + 1) σ' ∧ CI σ' I2 R2 ∧ RI σ' I2 ∧ I2 0 = xs := by
  have hm1 : 0 ≤ xs (6 * k) % 32 := Int.emod_nonneg _ (by decide)
  rcases (show xs (6 * k) % 32 = 0 ∨ xs (6 * k) % 32 = 1 ∨ xs (6 * k) % 32 = 2 ∨ xs (6 * k) % 32 = 3 ∨ xs (6 * k) % 32 = 4 ∨ xs (6 * k) % 32 = 5 ∨ xs (6 * k) % 32 = 6 ∨ xs (6 * k) % 32 = 7 ∨ xs (6 * k) % 32 = 8 ∨ xs (6 * k) % 32 = 9 ∨ xs (6 * k) % 32 = 10 ∨ xs (6 * k) % 32 = 11 ∨ xs (6 * k) % 32 = 12 ∨ xs (6 * k) % 32 = 13 ∨ xs (6 * k) % 32 = 14 ∨ xs (6 * k) % 32 = 15 ∨ xs (6 * k) % 32 = 16 ∨ xs (6 * k) % 32 = 17 ∨ xs (6 * k) % 32 = 18 ∨ xs (6 * k) % 32 = 19 ∨ xs (6 * k) % 32 = 20 ∨ xs (6 * k) % 32 = 21 ∨ xs (6 * k) % 32 = 22 ∨ xs (6 * k) % 32 = 23 ∨ xs (6 * k) % 32 = 24 ∨ xs (6 * k) % 32 = 25 ∨ 25 < xs (6 * k) % 32 by omega) with h | h | h | h | h | h | h | h | h | h | h | h | h | h | h | h | h | h | h | h | h | h | h | h | h | h | h
  · exact l_sets hL hx hk hs hC hR h0 h
  · exact l_at hL hx hk hs hC hR h0 h
  · exact l_sums hL hx hk hs hC hR h0 h
  · exact l_times hL hx hk hs hC hR h0 h
  · exact l_bracket hL hx hk hs hC hR h0 h
  · exact l_power hL hx hk hs hC hR h0 h
  · exact l_reversed hL hx hk hs hC hR h0 h
  · exact l_of hL hx hk hs hC hR h0 h
  · exact l_order hL hx hk hs hC hR h0 h
  · exact l_puts hL hx hk hs hC hR h0 h
  · exact l_rate hL hx hk hs hC hR h0 h
  · exact l_makes hL hx hk hs hC hR h0 h
  · exact l_kernel hL hx hk hs hC hR h0 h
  · exact l_kills hL hx hk hs hC hR h0 h
  · exact l_rest hL hx hk hs hC hR h0 h
  · exact l_basis hL hx hk hs hC hR h0 h
  · exact l_based hL hx hk hs hC hR h0 h
  · exact l_stairs hL hx hk hs hC hR h0 h
  · exact l_within hL hx hk hs hC hR h0 h
  · exact l_type hL hx hk hs hC hR h0 h
  · exact l_clear hL hx hk hs hC hR h0 h
  · exact l_reads hL hx hk hs hC hR h0 h
  · exact l_shown hL hx hk hs hC hR h0 h
  · exact l_back hL hx hk hs hC hR h0 h
  · exact l_told hL hx hk hs hC hR h0 h
  · exact l_digest hL hx hk hs hC hR h0 h
  · exact l_none hL hx hk hs hC hR h0 h
theorem xat_ok : ∀ w, w < 91 → am_xat w = xw w ∧ am_dat w = dw w := by decide +kernel
def σ0 : Sg := (fun _ => 0, 0, fun _ _ => 0, fun _ => 0, 0, fun _ => 0)
theorem Sok_0 : Sok 0 σ0 := ⟨⟨fun _ _ => by show (0 : Int) ≤ 0 ∧ (0 : Int) < 10007; decide, Or.inl rfl⟩, Nat.zero_le _, fun i hi => absurd hi (Nat.not_lt_zero _), fun i _ => by show (0 : Int) ≤ 0 ∧ (0 : Int) ≤ ((0 : Nat) : Int); decide, Nat.zero_le _, fun j hj => absurd hj (Nat.not_lt_zero _)⟩
theorem sl_b {f : Nat → am_C} {n B : Nat} (h : ∀ k, k < n → (f k).2.1 ≤ B) : am_sm f n ≤ n * B := by
  induction n with
  | zero => exact Nat.zero_le _
  | succ n ih =>
    have h1 := ih (fun k hk => h k (by omega))
    have h2 := h n (by omega)
    show am_sm f n + (f n).2.1 ≤ (n + 1) * B
    rw [Nat.succ_mul]
    omega
theorem ln_b : ∀ k, k < 318 → ly_n.getD k 0 ≤ 22816 := by decide +kernel
/-- both sides hold the same at the start -/
theorem s_init {xs : Nat → Int} {K J : Nat → Nat → Int} {S T : Nat → Nat → Option Nat} (hCf : Cf S) (hMf : Mf T) (hT : ∀ k, k ≠ 301 → T k = S k) (w1 : ∀ n, n < 13 → ∀ k, k ≤ 12 → K (112 + n) k = ch n k) (w2 : ∀ n, n < 31 → ∀ k, k ≤ n → k ≤ 12 → K (126 + n) k = fal n k) (w3 : ∀ k, k < 4 → K (171 + 13 * k) = au (Ix xs (171 + 13 * k)) 4 (-1)) (w4 : ∀ a, ¬ (112 ≤ a ∧ a < 157) → (∀ k, k < 4 → a ≠ 171 + 13 * k) → K a = Ix xs a) (m1 : ∀ w, w < 496 → J 307 w = (xw w : Nat) ∧ J 308 w = (dw w : Nat)) (m2 : ∀ m, m < 31 → ∀ k, k ≤ 30 → J 309 (31 * m + k) = ch m k) (m3 : ∀ a, a ≠ 307 → a ≠ 308 → a ≠ 309 → J a = K a) : CI σ0 J T ∧ RI σ0 J ∧ J 0 = xs := by
  have hCT : Cf T := Cf_c hCf (fun k hk => hT k (by omega))
  have hI : ∀ a, 3 ≤ a → ∀ i, Ix xs a i = 0 := fun a ha i => (Fsh_0 xs a ha).1 i
  have hz : ∀ a, 3 ≤ a → ¬ (112 ≤ a ∧ a < 157) → (∀ k, k < 4 → a ≠ 171 + 13 * k) → a ≠ 307 → a ≠ 308 → a ≠ 309 → ∀ i, J a i = 0 := fun a h1 h2 h3 h4 h5 h6 i => by rw [m3 a h4 h5 h6, w4 a h2 h3]; exact hI a h1 i
  have hj : ∀ a, a < 3 → J a = Ix xs a := fun a ha => by rw [m3 a (by omega) (by omega) (by omega), w4 a (by omega) (fun k hk => by omega)]
  have hb : ∀ k, k < 4 → J (171 + 13 * k) = au (Ix xs (171 + 13 * k)) 4 (-1) := fun k hk => by rw [m3 _ (by omega) (by omega) (by omega)]; exact w3 k hk
  refine ⟨⟨fix_of hCT hMf, ⟨⟨fun w hw => ?_, fun w hw => ?_⟩, fun n k h1 h2 => ?_, fun n k h1 h2 h3 => ?_⟩, fun j hj' => ?_, ⟨0, ⟨?_, by decide, ?_, Nat.zero_le _⟩, fun i hi => absurd hi (Nat.not_lt_zero _)⟩, fun i hi => ?_, ⟨?_, fun j => ?_⟩, (Cf_P hCT).1, (Cf_P hCT).2, fun k hk => ⟨fun x hx => ?_, ?_⟩, fun k hk => Or.inl ?_, ?_, fun k hk ho => ?_⟩, ⟨⟨fun j => ?_, fun w hw => (m1 w hw).1, fun w hw => (m1 w hw).2, fun n j h1 h2 => m2 n (by omega) j (by omega)⟩, fun j hj' => ?_, ⟨?_, fun i hi => absurd hi (Nat.not_lt_zero _)⟩, fun i hi => ?_, ⟨?_, fun j => ?_⟩, ⟨fun k hk => ⟨Or.inl ?_, Or.inl ?_⟩, fun j hj' => ?_⟩, Or.inl ?_⟩, ?_⟩
  · rw [hj 1 (by decide)]
    show ((am_xat w : Nat) : Int) = _
    rw [(xat_ok w hw).1]
  · rw [hj 2 (by decide)]
    show ((am_dat w : Nat) : Int) = _
    rw [(xat_ok w hw).2]
  · rw [m3 _ (by omega) (by omega) (by omega)]; exact w1 n (by omega) k (by omega)
  · rw [m3 _ (by omega) (by omega) (by omega)]; exact w2 n (by omega) k h2 h3
  · show snow J 4 j = 0
    unfold snow
    split
    · exact hz _ (by omega) (by omega) (fun k hk => by omega) (by omega) (by omega) (by omega) _
    · split
      · exact hz _ (by omega) (by omega) (fun k hk => by omega) (by omega) (by omega) (by omega) _
      · exact hz 4 (by omega) (by omega) (fun k hk => by omega) (by omega) (by omega) (by omega) _
  · exact hz 21 (by omega) (by omega) (fun k hk => by omega) (by omega) (by omega) (by omega) _
  · exact hz 21 (by omega) (by omega) (fun k hk => by omega) (by omega) (by omega) (by omega) _
  · exact hz 3 (by omega) (by omega) (fun k hk => by omega) (by omega) (by omega) (by omega) _
  · exact hz 108 (by omega) (by omega) (fun k hk => by omega) (by omega) (by omega) (by omega) _
  · exact hz 109 (by omega) (by omega) (fun k hk => by omega) (by omega) (by omega) (by omega) _
  · rw [hz (171 + 13 * k + 4) (by omega) (by omega) (fun m hm => by omega) (by omega) (by omega) (by omega)]; decide
  · rw [hb k hk, au_s]; decide
  · exact hz 170 (by omega) (by omega) (fun k hk => by omega) (by omega) (by omega) (by omega) _
  · rw [hz 165 (by omega) (by omega) (fun k hk => by omega) (by omega) (by omega) (by omega)]; decide
  · rw [hb k hk, au_s] at ho; omega
  · rw [hz 306 (by omega) (by omega) (fun k hk => by omega) (by omega) (by omega) (by omega)]; decide
  · exact hz 302 (by omega) (by omega) (fun k hk => by omega) (by omega) (by omega) (by omega) _
  · exact hz 301 (by omega) (by omega) (fun k hk => by omega) (by omega) (by omega) (by omega) _
  · exact hz 304 (by omega) (by omega) (fun k hk => by omega) (by omega) (by omega) (by omega) _
  · exact hz 301 (by omega) (by omega) (fun k hk => by omega) (by omega) (by omega) (by omega) _
  · exact hz 305 (by omega) (by omega) (fun k hk => by omega) (by omega) (by omega) (by omega) _
  · exact hz 315 (by omega) (by omega) (fun k hk => by omega) (by omega) (by omega) (by omega) _
  · exact hz 316 (by omega) (by omega) (fun k hk => by omega) (by omega) (by omega) (by omega) _
  · rw [hz 311 (by omega) (by omega) (fun k hk => by omega) (by omega) (by omega) (by omega)]; decide
  · exact hz 301 (by omega) (by omega) (fun k hk => by omega) (by omega) (by omega) (by omega) _
  · exact hj 0 (by decide)
set_option maxRecDepth 10000 in
/-- THE CLAIM over the abstract machine -/
theorem am_pure : am_Pure := by
  intro L xs hL hx
  have f0 := Fsh_0 xs
  obtain ⟨K, S, rW, hCf, fW, w1, w2, w3, w4⟩ := c_W (d := 56) (L := L) (I := Ix xs) (R := Rx) (fsh_m f0 (by omega)) (fr_i f0 (by omega))
  have fK : Fsh 301 K S := fsh_c f0 (by omega) (fun k hk => w4 k (by omega) (fun q hq => by omega)) (fun k hk => fW k (by omega))
  obtain ⟨J, T, rM, hMf, hT, m1, m2, m3⟩ := c_M (d := 58) (L := L) (I := K) (R := S) (fsh_m fK (by omega))
  obtain ⟨i1, i2, i3⟩ := s_init (xs := xs) hCf hMf hT w1 w2 w3 w4 m1 m2 m3
  have hlp : ∃ r, am_lp (am_ev (am_run am_tb 60) wL_law_18) 18 am_F ([vR 0, vR 3, vR 301, vI (6 * 0 : Nat)], [], LH L J T 0) = some r ∧ ∃ ls I2 R2 u2, r = (1047 + 2, ls, [], LH L I2 R2 u2) := by
    refine lp_inv (fun k y => ∃ I2 R2 u2 σ', y = ([vR 0, vR 3, vR 301, vI (6 * k : Nat)], [], LH L I2 R2 u2) ∧ Sok k σ' ∧ CI σ' I2 R2 ∧ RI σ' I2 ∧ I2 0 = xs) _ (L / 6) ⟨J, T, 0, σ0, rfl, Sok_0, i1, i2, i3⟩ (ltF (by omega)) (fun k y hk hy => ?_) (fun y hy => ?_)
    · obtain ⟨I2, R2, u2, σ', ey, a1, a2, a3, a4⟩ := hy
      subst ey
      obtain ⟨I3, R3, u3, σ3, b1, b2, b3, b4, b5⟩ := l_step (u := u2) hL hx (show 6 * k + 6 ≤ L by omega) a1 a2 a3 a4
      exact ⟨_, b1, I3, R3, u3, σ3, rfl, b2, b3, b4, b5⟩
    · obtain ⟨I2, R2, u2, σ', ey, a1, a2, a3, a4⟩ := hy
      subst ey
      refine ⟨(1047 + 2, [vR 0, vR 3, vR 301, vI (6 * (L / 6) : Nat)], [], LH L I2 R2 u2), ?_, by show ¬ 1047 + 2 = 18 + 2; decide, _, _, _, _, rfl⟩
      unfold wL_law_18
      apply t_Qs
      unfold pL_law_18
      apply t_B
      · refine x_iload_n rfl ?_
        refine x_aload_n rfl ?_
        refine x_alen (Or.inr tg_0) ?_
        rw [show ln L 0 = L from if_pos rfl]
        refine x_bipush ?_
        refine x_isub ?_
        exact rfl
      exact t_ic_gt_t (by omega)
  obtain ⟨r, hl, ls, I2, R2, u2, er⟩ := hlp
  subst er
  refine ⟨ls, LH L I2 R2 u2, ?_, by show 318 ≤ 600000; decide, ?_⟩
  · rw [h0_GH]
    unfold tL_law
    apply t_Q
    · unfold pL_law_0
      apply t_S
      refine g_new tg_3 (by decide) (ln_3 L) (fr_i f0 (Nat.le_refl _)) (fr_n f0 (Nat.le_refl _) tg_3 (by decide)) rfl ?_
      refine x_dup rfl ?_
      refine g_spec (vs := []) (by decide) (by omega) tg_3 rfl (Nat.le_of_ble_eq_true rfl) rW ?_
      refine x_astore_n rfl ?_
      refine g_new tg_301 (by decide) (ln_301 L) (fr_i fK (Nat.le_refl _)) (fr_n fK (Nat.le_refl _) tg_301 (by decide)) rfl ?_
      refine x_dup rfl ?_
      refine g_spec (vs := []) (by decide) (by omega) tg_301 rfl (Nat.le_of_ble_eq_true rfl) rM ?_
      rw [GH_LH]
      refine x_astore_n rfl ?_
      refine x_iconst ?_
      refine x_istore_n rfl ?_
      exact rfl
    apply t_Q
    · apply t_K
      apply t_W
      exact hl
    unfold pL_law_1047
    apply t_B
    · refine x_iconst ?_
      exact rfl
    exact t_ireq (Or.inr (Or.inr rfl)) rfl rfl
  · have h := sl_b (f := (LH L I2 R2 u2).2) (n := 318) (B := 22816) (fun k hk => by
      show ln L k ≤ 22816
      by_cases c : k = 0
      · rw [c, show ln L 0 = L from if_pos rfl]; omega
      · rw [ln_k c]; exact ln_b k hk)
    have h : am_sl (LH L I2 R2 u2) ≤ 318 * 22816 := h
    omega
