/-! Constructors: reader, algebra. Written by wip/whole/gen_bi.py. -/
theorem lq_all : ∀ s, s < 9 → ((tg (261 + 4 * s) = 6 ∧ ly_n.getD (261 + 4 * s) 0 = 1) ∧ tg (261 + 4 * s + 1) = 20 ∧ ly_n.getD (261 + 4 * s + 1) 0 = 91) ∧ (tg (261 + 4 * s + 2) = 6 ∧ ly_n.getD (261 + 4 * s + 2) 0 = 1) ∧ tg (261 + 4 * s + 3) = 20 ∧ ly_n.getD (261 + 4 * s + 3) 0 = 91 := by decide +kernel
def Rf7 (S : Nat → Nat → Option Nat) (t : Nat) : Prop := S 255 t = some (261 + 4 * t) ∧ S (261 + 4 * t) 0 = some (261 + 4 * t + 1) ∧ S 256 t = some (261 + 4 * t + 2) ∧ S (261 + 4 * t + 2) 0 = some (261 + 4 * t + 3)
theorem c_rd {d L : Nat} {I : Nat → Nat → Int} {R : Nat → Nat → Option Nat} (hf : Fsh 255 I R) (hI : ∀ i, I 254 i = 0) : ∃ S, am_run am_tb (d + 2) 66 [vR 254, vR 110, vR 108] (GH 255 L I R 0) = some ([], GH 297 L I S 0) ∧ (S 254 0 = some 110 ∧ S 254 1 = some 108 ∧ S 254 2 = some 255 ∧ S 254 3 = some 256 ∧ S 254 4 = some 257 ∧ S 254 5 = some 259 ∧ S 257 0 = some 258 ∧ S 259 0 = some 260) ∧ (∀ t, t < 9 → Rf7 S t) ∧ ∀ k, ¬ (254 ≤ k ∧ k < 297) → S k = R k := by
  obtain ⟨R1, e1⟩ : ∃ Q, Q = au R 254 (au (R 254) 2 (some 255)) := ⟨_, rfl⟩
  have f1 : Fsh 256 I R1 := by rw [e1]; exact fsh_p (fsh_m hf (by omega)) (by omega)
  obtain ⟨R2, e2⟩ : ∃ Q, Q = au R1 254 (au (R1 254) 3 (some 256)) := ⟨_, rfl⟩
  have f2 : Fsh 257 I R2 := by rw [e2]; exact fsh_p (fsh_m f1 (by omega)) (by omega)
  obtain ⟨R3, e3⟩ : ∃ Q, Q = au R2 257 (au (R2 257) 0 (some 258)) := ⟨_, rfl⟩
  have f3 : Fsh 259 I R3 := by rw [e3]; exact fsh_p (fsh_m f2 (by omega)) (by omega)
  obtain ⟨R4, e4⟩ : ∃ Q, Q = au R3 254 (au (R3 254) 4 (some 257)) := ⟨_, rfl⟩
  have f4 : Fsh 259 I R4 := by rw [e4]; exact fsh_p (fsh_m f3 (by omega)) (by omega)
  obtain ⟨R5, e5⟩ : ∃ Q, Q = au R4 259 (au (R4 259) 0 (some 260)) := ⟨_, rfl⟩
  have f5 : Fsh 261 I R5 := by rw [e5]; exact fsh_p (fsh_m f4 (by omega)) (by omega)
  obtain ⟨R6, e6⟩ : ∃ Q, Q = au R5 254 (au (R5 254) 5 (some 259)) := ⟨_, rfl⟩
  have f6 : Fsh 261 I R6 := by rw [e6]; exact fsh_p (fsh_m f5 (by omega)) (by omega)
  obtain ⟨R7, e7⟩ : ∃ Q, Q = au R6 254 (au (R6 254) 0 (some 110)) := ⟨_, rfl⟩
  have f7 : Fsh 261 I R7 := by rw [e7]; exact fsh_p (fsh_m f6 (by omega)) (by omega)
  obtain ⟨R8, e8⟩ : ∃ Q, Q = au R7 254 (au (R7 254) 1 (some 108)) := ⟨_, rfl⟩
  have f8 : Fsh 261 I R8 := by rw [e8]; exact fsh_p (fsh_m f7 (by omega)) (by omega)
  have rx : ∀ k, ¬ (254 ≤ k ∧ k < 261) → R8 k = R k := fun k hk => by rw [e8, au_n _ _ (by omega), e7, au_n _ _ (by omega), e6, au_n _ _ (by omega), e5, au_n _ _ (by omega), e4, au_n _ _ (by omega), e3, au_n _ _ (by omega), e2, au_n _ _ (by omega), e1, au_n _ _ (by omega)]
  have q254_0 : R8 254 0 = some 110 := by rw [e8, aun (by decide), e7, aup]
  have q254_1 : R8 254 1 = some 108 := by rw [e8, aup]
  have q254_2 : R8 254 2 = some 255 := by rw [e8, aun (by decide), e7, aun (by decide), e6, aun (by decide), e5, au_n _ _ (by decide), e4, aun (by decide), e3, au_n _ _ (by decide), e2, aun (by decide), e1, aup]
  have q254_3 : R8 254 3 = some 256 := by rw [e8, aun (by decide), e7, aun (by decide), e6, aun (by decide), e5, au_n _ _ (by decide), e4, aun (by decide), e3, au_n _ _ (by decide), e2, aup]
  have q254_4 : R8 254 4 = some 257 := by rw [e8, aun (by decide), e7, aun (by decide), e6, aun (by decide), e5, au_n _ _ (by decide), e4, aup]
  have q254_5 : R8 254 5 = some 259 := by rw [e8, aun (by decide), e7, aun (by decide), e6, aup]
  have q257_0 : R8 257 0 = some 258 := by rw [e8, au_n _ _ (by decide), e7, au_n _ _ (by decide), e6, au_n _ _ (by decide), e5, au_n _ _ (by decide), e4, au_n _ _ (by decide), e3, aup]
  have q259_0 : R8 259 0 = some 260 := by rw [e8, au_n _ _ (by decide), e7, au_n _ _ (by decide), e6, au_n _ _ (by decide), e5, aup]
  have hlp : ∃ r, am_lp (am_ev (am_run am_tb (d + 1)) wX7_init_61) 61 am_F ([vR 254, vR 110, vR 108, vI (0 : Nat)], [], GH 261 L I R8 0) = some r ∧ ∃ S, r = (101, [vR 254, vR 110, vR 108, vI (9 : Nat)], [], GH 297 L I S 0) ∧ (∀ t, t < 9 → Rf7 S t) ∧ ∀ k, k ≠ 255 → k ≠ 256 → ¬ (261 ≤ k ∧ k < 297) → S k = R8 k := by
    refine lp_inv (fun s y => ∃ S, y = ([vR 254, vR 110, vR 108, vI (s : Nat)], [], GH (261 + 4 * s) L I S 0) ∧ (∀ t, t < s → Rf7 S t) ∧ ∀ k, k ≠ 255 → k ≠ 256 → ¬ (261 ≤ k ∧ k < 261 + 4 * s) → S k = R8 k) _ 9 ⟨R8, rfl, fun t ht => absurd ht (Nat.not_lt_zero _), fun _ _ _ _ => rfl⟩ (ltF (by omega)) (fun s y hs hy => ?_) (fun y hy => ?_)
    · obtain ⟨S, ey, hS, hFr⟩ := hy
      subst ey
      obtain ⟨⟨⟨p1, p2⟩, p3, p4⟩, ⟨p5, p6⟩, p7, p8⟩ := lq_all s hs
      have fS : Fsh (261 + 4 * s) I S := fsh_c f8 (by omega) (fun _ _ => rfl) (fun k hk => hFr k (by omega) (by omega) (by omega))
      have hop := c_op (d := d) (L := L) (n := 261 + 4 * s + 1) (a := 261 + 4 * s) (I := I) (R := S) (u := 0) (by omega) (fsh_m fS (by omega)) p1 p3 ((ln_k (by omega)).trans p4)
      obtain ⟨S1, g1⟩ : ∃ Q, Q = au S (261 + 4 * s) (au (S (261 + 4 * s)) 0 (some (261 + 4 * s + 1))) := ⟨_, rfl⟩
      obtain ⟨S2, g2⟩ : ∃ Q, Q = au S1 255 (au (S1 255) s (some (261 + 4 * s))) := ⟨_, rfl⟩
      have fS2 : Fsh (261 + 4 * s + 2) I S2 := by rw [g2, g1]; exact fsh_p (fsh_p (fsh_m fS (by omega)) (by omega)) (by omega)
      have hop2 := c_op (d := d) (L := L) (n := 261 + 4 * s + 3) (a := 261 + 4 * s + 2) (I := I) (R := S2) (u := 0) (by omega) (fsh_m fS2 (by omega)) p5 p7 ((ln_k (by omega)).trans p8)
      obtain ⟨S3, g3⟩ : ∃ Q, Q = au S2 (261 + 4 * s + 2) (au (S2 (261 + 4 * s + 2)) 0 (some (261 + 4 * s + 3))) := ⟨_, rfl⟩
      obtain ⟨S4, g4⟩ : ∃ Q, Q = au S3 256 (au (S3 256) s (some (261 + 4 * s + 2))) := ⟨_, rfl⟩
      rw [← g1] at hop
      rw [← g3] at hop2
      have hx2 : S 254 2 = some 255 := by rw [hFr 254 (by omega) (by omega) (by omega)]; exact q254_2
      have hx3 : S2 254 3 = some 256 := by rw [g2, au_n _ _ (by omega), g1, au_n _ _ (by omega), hFr 254 (by omega) (by omega) (by omega)]; exact q254_3
      refine ⟨([vR 254, vR 110, vR 108, vI (s + 1 : Nat)], [], GH (261 + 4 * (s + 1)) L I S4 0), ?_, S4, rfl, fun t ht => ?_, fun k h1 h2 h3 => ?_⟩
      · unfold wX7_init_61
        apply t_Q
        · apply t_B
          · refine x_iload_n rfl ?_
            refine x_bipush ?_
            exact rfl
          exact t_ic_gt_f (by omega)
        apply t_B
        · refine x_aload_n rfl ?_
          refine g_gr (by omega) tg_254 rfl hx2 ?_
          refine x_iload_n rfl ?_
          refine g_new p1 (by decide) ((ln_k (by omega)).trans p2) (fr_i fS (Nat.le_refl _)) (fr_n fS (Nat.le_refl _) p1 (by decide)) rfl ?_
          refine x_dup rfl ?_
          refine g_spec (vs := []) (by decide) (by omega) p1 rfl (Nat.le_of_ble_eq_true rfl) hop ?_
          refine g_aast (by omega) (by omega) tg_255 ⟨by decide, by decide, p1⟩ (ln_255 L) (by omega) ?_
          rw [Int.toNat_natCast, ← g2]
          refine x_aload_n rfl ?_
          refine g_gr (by omega) tg_254 rfl hx3 ?_
          refine x_iload_n rfl ?_
          refine g_new p5 (by decide) ((ln_k (by omega)).trans p6) (fr_i fS2 (Nat.le_refl _)) (fr_n fS2 (Nat.le_refl _) p5 (by decide)) rfl ?_
          refine x_dup rfl ?_
          refine g_spec (vs := []) (by decide) (by omega) p5 rfl (Nat.le_of_ble_eq_true rfl) hop2 ?_
          refine g_aast (by omega) (by omega) tg_256 ⟨by decide, by decide, p5⟩ (ln_256 L) (by omega) ?_
          rw [Int.toNat_natCast, ← g4]
          refine x_iinc rfl rfl ?_
          exact rfl
        exact t_goeq rfl
      · unfold Rf7
        by_cases c : t = s
        · rw [c]
          refine ⟨?_, ?_, ?_, ?_⟩
          · rw [g4, au_n _ _ (by omega), g3, au_n _ _ (by omega), g2, aup]
          · rw [g4, au_n _ _ (by omega), g3, au_n _ _ (by omega), g2, au_n _ _ (by omega), g1, aup]
          · rw [g4, aup]
          · rw [g4, au_n _ _ (by omega), g3, aup]
        · obtain ⟨a1, a2, a3, a4⟩ := hS t (by omega)
          refine ⟨?_, ?_, ?_, ?_⟩
          · rw [g4, au_n _ _ (by omega), g3, au_n _ _ (by omega), g2, aun c, g1, au_n _ _ (by omega)]; exact a1
          · rw [g4, au_n _ _ (by omega), g3, au_n _ _ (by omega), g2, au_n _ _ (by omega), g1, au_n _ _ (by omega)]; exact a2
          · rw [g4, aun c, g3, au_n _ _ (by omega), g2, au_n _ _ (by omega), g1, au_n _ _ (by omega)]; exact a3
          · rw [g4, au_n _ _ (by omega), g3, au_n _ _ (by omega), g2, au_n _ _ (by omega), g1, au_n _ _ (by omega)]; exact a4
      · rw [g4, au_n _ _ h2, g3, au_n _ _ (by omega), g2, au_n _ _ h1, g1, au_n _ _ (by omega)]
        exact hFr k h1 h2 (by omega)
    · obtain ⟨S, ey, hS, hFr⟩ := hy
      subst ey
      refine ⟨(101, [vR 254, vR 110, vR 108, vI (9 : Nat)], [], GH 297 L I S 0), ?_, by show ¬ 101 = 61 + 2; decide, S, rfl, hS, fun k h1 h2 h3 => hFr k h1 h2 (by omega)⟩
      unfold wX7_init_61
      apply t_Qs
      apply t_B
      · refine x_iload_n rfl ?_
        refine x_bipush ?_
        exact rfl
      exact t_ic_gt_t (by omega)
  obtain ⟨r, hl, S, er, hS, hFr⟩ := hlp
  subst er
  refine ⟨S, ?_, ⟨by rw [hFr 254 (by omega) (by omega) (by omega)]; exact q254_0, by rw [hFr 254 (by omega) (by omega) (by omega)]; exact q254_1, by rw [hFr 254 (by omega) (by omega) (by omega)]; exact q254_2, by rw [hFr 254 (by omega) (by omega) (by omega)]; exact q254_3, by rw [hFr 254 (by omega) (by omega) (by omega)]; exact q254_4, by rw [hFr 254 (by omega) (by omega) (by omega)]; exact q254_5, by rw [hFr 257 (by omega) (by omega) (by omega)]; exact q257_0, by rw [hFr 259 (by omega) (by omega) (by omega)]; exact q259_0⟩, hS, fun k hk => by rw [hFr k (by omega) (by omega) (by omega), rx k (by omega)]⟩
  refine run_of tb_X7_init (Nat.le_of_ble_eq_true rfl) ?_
  show ∃ ls', am_ev (am_run am_tb (d + 1)) tX7_init ([vR 254, vR 110, vR 108, vU], [], GH 255 L I R 0) = _
  apply Exists.intro
  unfold tX7_init
  apply t_Q
  · apply t_S
    refine x_aload_n rfl ?_
    refine g_super (Nat.le_of_ble_eq_true rfl) ?_
    refine x_aload_n rfl ?_
    refine x_bipush ?_
    refine g_an tg_255 (by decide) (ln_255 L) rfl (by decide) (fr_n hf (by omega) tg_255 (by decide)) ?_
    refine g_pr (by omega) tg_254 rfl ?_
    rw [← e1]
    refine x_aload_n rfl ?_
    refine x_bipush ?_
    refine g_an tg_256 (by decide) (ln_256 L) rfl (by decide) (fr_n f1 (by omega) tg_256 (by decide)) ?_
    refine g_pr (by omega) tg_254 rfl ?_
    rw [← e2]
    refine x_aload_n rfl ?_
    refine g_new tg_257 (by decide) (ln_257 L) (fr_i f2 (by omega)) (fr_n f2 (by omega) tg_257 (by decide)) rfl ?_
    refine x_dup rfl ?_
    refine g_spec (vs := []) (by decide) (by omega) tg_257 rfl (Nat.le_of_ble_eq_true rfl) (c_op (d := d) (by omega) (fsh_m f2 (by omega)) tg_257 tg_258 (ln_258 L)) ?_
    rw [← e3]
    refine g_pr (by omega) tg_254 rfl ?_
    rw [← e4]
    refine x_aload_n rfl ?_
    refine g_new tg_259 (by decide) (ln_259 L) (fr_i f4 (by omega)) (fr_n f4 (by omega) tg_259 (by decide)) rfl ?_
    refine x_dup rfl ?_
    refine g_spec (vs := []) (by decide) (by omega) tg_259 rfl (Nat.le_of_ble_eq_true rfl) (c_op (d := d) (by omega) (fsh_m f4 (by omega)) tg_259 tg_260 (ln_260 L)) ?_
    rw [← e5]
    refine g_pr (by omega) tg_254 rfl ?_
    rw [← e6]
    refine x_aload_n rfl ?_
    refine x_iconst ?_
    refine g_p0 (by omega) tg_254 rfl rfl (hI 6) ?_
    refine x_aload_n rfl ?_
    refine x_aload_n rfl ?_
    refine g_pr (by omega) tg_254 rfl ?_
    rw [← e7]
    refine x_aload_n rfl ?_
    refine x_aload_n rfl ?_
    refine g_pr (by omega) tg_254 rfl ?_
    rw [← e8]
    refine x_iconst ?_
    refine x_istore_n rfl ?_
    exact rfl
  apply t_Q
  · apply t_K
    apply t_W
    exact hl
  apply t_B
  · exact rfl
  exact rfl
theorem ly_111 : ∀ k, 112 ≤ k → k < 125 → tg k = 20 ∧ ly_n.getD k 0 = 13 := fun k h1 h2 => by
  have key : ∀ j, j < 13 → tg (112 + j) = 20 ∧ ly_n.getD (112 + j) 0 = 13 := by decide +kernel
  have := key (k - 112) (by omega)
  rw [show 112 + (k - 112) = k by omega] at this
  exact this
theorem ly_125 : ∀ k, 126 ≤ k → k < 157 → tg k = 20 ∧ ly_n.getD k 0 = 13 := fun k h1 h2 => by
  have key : ∀ j, j < 31 → tg (126 + j) = 20 ∧ ly_n.getD (126 + j) 0 = 13 := by decide +kernel
  have := key (k - 126) (by omega)
  rw [show 126 + (k - 126) = k by omega] at this
  exact this
/-- the tables of the class -/
theorem c_tab1 {d L : Nat} {I : Nat → Nat → Int} {R : Nat → Nat → Option Nat} (hI : ∀ k, 112 ≤ k → k < 125 → ∀ i, I k i = 0) (h0 : R 110 0 = some 111) (h1 : ∀ i, R 111 i = some (112 + i)) {l2 : am_V} : ∃ r, am_lp (am_ev (am_run am_tb d) wX1_init_41) 41 am_F ([vR 110, vI (0 : Nat), l2], [], GH 159 L I R 0) = some r ∧ ∃ J l2', r = (112, [vR 110, vI (13 : Nat), l2'], [], GH 159 L J R 0) ∧ (∀ n, n < 13 → ∀ k, k ≤ 12 → J (112 + n) k = ch n k) ∧ ∀ a, ¬ (112 ≤ a ∧ a < 125) → J a = I a := by
  refine lp_inv (fun m y => ∃ J l2', y = ([vR 110, vI (m : Nat), l2'], [], GH 159 L J R 0) ∧ (∀ n, n < m → ∀ k, k ≤ 12 → J (112 + n) k = ch n k) ∧ ∀ a, ¬ (112 ≤ a ∧ a < 112 + m) → J a = I a) _ 13 ⟨I, l2, rfl, fun n hn => absurd hn (Nat.not_lt_zero _), fun _ _ => rfl⟩ (ltF (by omega)) (fun m y hm hy => ?_) (fun y hy => ?_)
  · obtain ⟨J, l2', ey, hJ, hFr⟩ := hy
    subst ey
    obtain ⟨t1, t2⟩ := ly_111 (112 + m) (by omega) (by omega)
    have hJm : ∀ i, J (112 + m) i = 0 := fun i => by rw [hFr _ (by omega)]; exact hI _ (by omega) (by omega) i
    obtain ⟨J1, g1⟩ : ∃ Q, Q = au J (112 + m) (au (J (112 + m)) 0 1) := ⟨_, rfl⟩
    have hin : ∃ r, am_lp (am_ev (am_run am_tb d) wX1_init_58) 58 am_F ([vR 110, vI (m : Nat), vI (0 + 1 : Nat)], [], GH 159 L J1 R 0) = some r ∧ ∃ Q, r = (106, [vR 110, vI (m : Nat), vI (m + 1 : Nat)], [], GH 159 L Q R 0) ∧ (∀ k, k ≤ m → Q (112 + m) k = ch m k) ∧ (∀ k, m < k → Q (112 + m) k = 0) ∧ ∀ a, a ≠ 112 + m → Q a = J1 a := by
      refine lp_inv (fun t y => ∃ Q, y = ([vR 110, vI (m : Nat), vI (t + 1 : Nat)], [], GH 159 L Q R 0) ∧ (∀ k, k ≤ t → Q (112 + m) k = ch m k) ∧ (∀ k, t < k → Q (112 + m) k = 0) ∧ ∀ a, a ≠ 112 + m → Q a = J1 a) _ m ⟨J1, rfl, fun k hk => ?_, fun k hk => ?_, fun _ _ => rfl⟩ (ltF (by omega)) (fun t y ht hy => ?_) (fun y hy => ?_)
      · rw [show k = 0 by omega, g1, au_s, au_s, ch_0]
      · rw [g1, au_s, au_n _ _ (by omega)]; exact hJm k
      · obtain ⟨Q, ey, q1, q2, q3⟩ := hy
        subst ey
        obtain ⟨p, hp⟩ : ∃ p, m = p + 1 := ⟨m - 1, by omega⟩
        have v1 : Q (112 + p) t = ch p t := by rw [q3 _ (by omega), g1, au_n _ _ (by omega)]; exact hJ p (by omega) t (by omega)
        have v2 : Q (112 + p) (t + 1) = ch p (t + 1) := by rw [q3 _ (by omega), g1, au_n _ _ (by omega)]; exact hJ p (by omega) (t + 1) (by omega)
        have b1 := ch_b p t
        have b2 := ch_b p (t + 1)
        obtain ⟨s1, s2⟩ := ly_111 (112 + p) (by omega) (by omega)
        obtain ⟨Q2, g2⟩ : ∃ X, X = au Q (112 + m) (au (Q (112 + m)) (t + 1) ((ch p t + ch p (t + 1)) % 10007)) := ⟨_, rfl⟩
        refine ⟨([vR 110, vI (m : Nat), vI (t + 1 + 1 : Nat)], [], GH 159 L Q2 R 0), ?_, Q2, rfl, fun k hk => ?_, fun k hk => ?_, fun a ha => ?_⟩
        · unfold wX1_init_58
          apply t_Q
          · apply t_B
            · refine x_iload_n rfl ?_
              refine x_iload_n rfl ?_
              exact rfl
            exact t_ic_gt_f (by omega)
          apply t_B
          · refine x_aload_n rfl ?_
            refine g_gr (by omega) tg_110 rfl h0 ?_
            refine x_iload_n rfl ?_
            refine g_aald (by omega) (by rw [tg_111]; decide) (ln_111 L) (by omega) (by rw [Int.toNat_natCast]; exact h1 m) ?_
            refine x_iload_n rfl ?_
            refine x_aload_n rfl ?_
            refine g_gr (by omega) tg_110 rfl h0 ?_
            refine x_iload_n rfl ?_
            refine x_iconst ?_
            refine x_isub ?_
            refine g_aald (by omega) (by rw [tg_111]; decide) (ln_111 L) (by omega) (by rw [show (((m : Nat) : Int) - 1).toNat = p by omega]; exact h1 p) ?_
            refine x_iload_n rfl ?_
            refine x_iconst ?_
            refine x_isub ?_
            refine g_iald (by omega) s1 ((ln_k (by omega)).trans s2) (by omega) ?_
            rw [show (((t + 1 : Nat) : Int) - 1).toNat = t by omega, v1]
            refine x_aload_n rfl ?_
            refine g_gr (by omega) tg_110 rfl h0 ?_
            refine x_iload_n rfl ?_
            refine x_iconst ?_
            refine x_isub ?_
            refine g_aald (by omega) (by rw [tg_111]; decide) (ln_111 L) (by omega) (by rw [show (((m : Nat) : Int) - 1).toNat = p by omega]; exact h1 p) ?_
            refine x_iload_n rfl ?_
            refine g_iald (by omega) s1 ((ln_k (by omega)).trans s2) (by omega) ?_
            rw [show (((t + 1 : Nat) : Int)).toNat = t + 1 by omega, v2]
            refine x_iadd ?_
            refine x_sipush ?_
            refine x_irem0 (by omega) ?_
            refine g_iast (by omega) t1 ((ln_k (by omega)).trans t2) (by omega) ?_
            rw [show (((t + 1 : Nat) : Int)).toNat = t + 1 by omega, ← g2]
            refine x_iinc rfl rfl ?_
            exact rfl
          exact t_goeq rfl
        · by_cases c : k = t + 1
          · rw [c, g2, au_s, au_s, hp]
            show _ = (ch p (t + 1) + ch p t) % 10007
            rw [Int.add_comm]
          · rw [g2, au_s, au_n _ _ c]; exact q1 k (by omega)
        · rw [g2, au_s, au_n _ _ (by omega)]; exact q2 k (by omega)
        · rw [g2, au_n _ _ ha]; exact q3 a ha
      · obtain ⟨Q, ey, q1, q2, q3⟩ := hy
        subst ey
        refine ⟨(106, [vR 110, vI (m : Nat), vI (m + 1 : Nat)], [], GH 159 L Q R 0), ?_, by show ¬ 106 = 58 + 2; decide, Q, rfl, q1, q2, q3⟩
        unfold wX1_init_58
        apply t_Qs
        apply t_B
        · refine x_iload_n rfl ?_
          refine x_iload_n rfl ?_
          exact rfl
        exact t_ic_gt_t (by omega)
    obtain ⟨r, hl, Q, er, q1, q2, q3⟩ := hin
    subst er
    refine ⟨([vR 110, vI (m + 1 : Nat), vI (m + 1 : Nat)], [], GH 159 L Q R 0), ?_, Q, _, rfl, fun n hn k hk => ?_, fun a ha => ?_⟩
    · unfold wX1_init_41
      apply t_Q
      · apply t_B
        · refine x_iload_n rfl ?_
          refine x_bipush ?_
          exact rfl
        exact t_ic_gt_f (by omega)
      apply t_Q
      · apply t_S
        refine x_aload_n rfl ?_
        refine g_gr (by omega) tg_110 rfl h0 ?_
        refine x_iload_n rfl ?_
        refine g_aald (by omega) (by rw [tg_111]; decide) (ln_111 L) (by omega) (by rw [Int.toNat_natCast]; exact h1 m) ?_
        refine x_iconst ?_
        refine x_iconst ?_
        refine g_iast (by omega) t1 ((ln_k (by omega)).trans t2) (by omega) ?_
        rw [show (0 : Int).toNat = 0 from rfl, ← g1]
        refine x_iconst ?_
        refine x_istore_n rfl ?_
        exact rfl
      apply t_Q
      · apply t_K
        apply t_W
        exact hl
      apply t_B
      · refine x_iinc rfl rfl ?_
        exact rfl
      exact t_goeq rfl
    · by_cases c : n = m
      · rw [c]
        by_cases c2 : k ≤ m
        · exact q1 k c2
        · rw [q2 k (by omega), ch_o (by omega)]
      · rw [q3 _ (by omega), g1, au_n _ _ (by omega)]; exact hJ n (by omega) k hk
    · rw [q3 _ (by omega), g1, au_n _ _ (by omega)]; exact hFr a (by omega)
  · obtain ⟨J, l2', ey, hJ, hFr⟩ := hy
    subst ey
    refine ⟨(112, [vR 110, vI (13 : Nat), l2'], [], GH 159 L J R 0), ?_, by show ¬ 112 = 41 + 2; decide, J, l2', rfl, hJ, fun a ha => hFr a (by omega)⟩
    unfold wX1_init_41
    apply t_Qs
    apply t_B
    · refine x_iload_n rfl ?_
      refine x_bipush ?_
      exact rfl
    exact t_ic_gt_t (by omega)
theorem c_tab2 {d L : Nat} {I : Nat → Nat → Int} {R : Nat → Nat → Option Nat} (h0 : R 110 1 = some 125) (h1 : ∀ i, R 125 i = some (126 + i)) {l2 : am_V} : ∃ r, am_lp (am_ev (am_run am_tb (d + 1)) wX1_init_112) 112 am_F ([vR 110, vI (0 : Nat), l2], [], GH 159 L I R 0) = some r ∧ ∃ J l2', r = (181, [vR 110, vI (31 : Nat), l2'], [], GH 159 L J R 0) ∧ (∀ n, n < 31 → ∀ k, k ≤ n → k ≤ 12 → J (126 + n) k = fal n k) ∧ ∀ a, ¬ (126 ≤ a ∧ a < 157) → J a = I a := by
  refine lp_inv (fun m y => ∃ J l2', y = ([vR 110, vI (m : Nat), l2'], [], GH 159 L J R 0) ∧ (∀ n, n < m → ∀ k, k ≤ n → k ≤ 12 → J (126 + n) k = fal n k) ∧ ∀ a, ¬ (126 ≤ a ∧ a < 126 + m) → J a = I a) _ 31 ⟨I, l2, rfl, fun n hn => absurd hn (Nat.not_lt_zero _), fun _ _ => rfl⟩ (ltF (by omega)) (fun m y hm hy => ?_) (fun y hy => ?_)
  · obtain ⟨J, l2', ey, hJ, hFr⟩ := hy
    subst ey
    obtain ⟨t1, t2⟩ := ly_125 (126 + m) (by omega) (by omega)
    obtain ⟨J1, g1⟩ : ∃ Q, Q = au J (126 + m) (au (J (126 + m)) 0 1) := ⟨_, rfl⟩
    have hmin : ∀ (h : am_H), am_run am_tb (d + 1) 233 [vI (m : Nat), vI 12] h = some ([vI (min ((m : Nat) : Int) 12)], h) := fun h => sj_min (d := d) (by omega) (by omega)
    have hin : ∃ r, am_lp (am_ev (am_run am_tb (d + 1)) wX1_init_129) 129 am_F ([vR 110, vI (m : Nat), vI (0 + 1 : Nat)], [], GH 159 L J1 R 0) = some r ∧ ∃ Q, r = (175, [vR 110, vI (m : Nat), vI (min m 12 + 1 : Nat)], [], GH 159 L Q R 0) ∧ (∀ k, k ≤ min m 12 → Q (126 + m) k = fal m k) ∧ ∀ a, a ≠ 126 + m → Q a = J1 a := by
      refine lp_inv (fun t y => ∃ Q, y = ([vR 110, vI (m : Nat), vI (t + 1 : Nat)], [], GH 159 L Q R 0) ∧ (∀ k, k ≤ t → Q (126 + m) k = fal m k) ∧ ∀ a, a ≠ 126 + m → Q a = J1 a) _ (min m 12) ⟨J1, rfl, fun k hk => ?_, fun _ _ => rfl⟩ (ltF (by omega)) (fun t y ht hy => ?_) (fun y hy => ?_)
      · rw [show k = 0 by omega, g1, au_s, au_s]; rfl
      · obtain ⟨Q, ey, q1, q3⟩ := hy
        subst ey
        have v1 : Q (126 + m) t = fal m t := q1 t (Nat.le_refl _)
        have b1 := fal_b m t
        have b2 := mul_b (a := fal m t) (b := ((m : Nat) : Int) - (t + 1 : Nat) + 1) (m := 10006) (n := 30) (by omega) (by omega)
        obtain ⟨Q2, g2⟩ : ∃ X, X = au Q (126 + m) (au (Q (126 + m)) (t + 1) (fal m t * (((m : Nat) : Int) - (t + 1 : Nat) + 1) % 10007)) := ⟨_, rfl⟩
        refine ⟨([vR 110, vI (m : Nat), vI (t + 1 + 1 : Nat)], [], GH 159 L Q2 R 0), ?_, Q2, rfl, fun k hk => ?_, fun a ha => ?_⟩
        · unfold wX1_init_129
          apply t_Q
          · apply t_B
            · refine x_iload_n rfl ?_
              refine x_iload_n rfl ?_
              refine x_bipush ?_
              refine x_S2i (by decide) (Nat.le_of_ble_eq_true rfl) (hmin _) ?_
              exact rfl
            exact t_ic_gt_f (by omega)
          apply t_B
          · refine x_aload_n rfl ?_
            refine g_gr (by omega) tg_110 rfl h0 ?_
            refine x_iload_n rfl ?_
            refine g_aald (by omega) (by rw [tg_125]; decide) (ln_125 L) (by omega) (by rw [Int.toNat_natCast]; exact h1 m) ?_
            refine x_iload_n rfl ?_
            refine x_aload_n rfl ?_
            refine g_gr (by omega) tg_110 rfl h0 ?_
            refine x_iload_n rfl ?_
            refine g_aald (by omega) (by rw [tg_125]; decide) (ln_125 L) (by omega) (by rw [Int.toNat_natCast]; exact h1 m) ?_
            refine x_iload_n rfl ?_
            refine x_iconst ?_
            refine x_isub ?_
            refine g_iald (by omega) t1 ((ln_k (by omega)).trans t2) (by omega) ?_
            rw [show (((t + 1 : Nat) : Int) - 1).toNat = t by omega, v1]
            refine x_iload_n rfl ?_
            refine x_iload_n rfl ?_
            refine x_isub ?_
            refine x_iconst ?_
            refine x_iadd ?_
            refine x_imul ?_
            refine x_sipush ?_
            refine x_irem0 (by omega) ?_
            refine g_iast (by omega) t1 ((ln_k (by omega)).trans t2) (by omega) ?_
            rw [show (((t + 1 : Nat) : Int)).toNat = t + 1 by omega, ← g2]
            refine x_iinc rfl rfl ?_
            exact rfl
          exact t_goeq rfl
        · by_cases c : k = t + 1
          · rw [c, g2, au_s, au_s]
            show _ = fal m t * (((m : Nat) : Int) - t) % 10007
            rw [show ((m : Nat) : Int) - (t + 1 : Nat) + 1 = ((m : Nat) : Int) - t by omega]
          · rw [g2, au_s, au_n _ _ c]; exact q1 k (by omega)
        · rw [g2, au_n _ _ ha]; exact q3 a ha
      · obtain ⟨Q, ey, q1, q3⟩ := hy
        subst ey
        refine ⟨(175, [vR 110, vI (m : Nat), vI (min m 12 + 1 : Nat)], [], GH 159 L Q R 0), ?_, by show ¬ 175 = 129 + 2; decide, Q, rfl, q1, q3⟩
        unfold wX1_init_129
        apply t_Qs
        apply t_B
        · refine x_iload_n rfl ?_
          refine x_iload_n rfl ?_
          refine x_bipush ?_
          refine x_S2i (by decide) (Nat.le_of_ble_eq_true rfl) (hmin _) ?_
          exact rfl
        exact t_ic_gt_t (by omega)
    obtain ⟨r, hl, Q, er, q1, q3⟩ := hin
    subst er
    refine ⟨([vR 110, vI (m + 1 : Nat), vI (min m 12 + 1 : Nat)], [], GH 159 L Q R 0), ?_, Q, _, rfl, fun n hn k hk hk2 => ?_, fun a ha => ?_⟩
    · unfold wX1_init_112
      apply t_Q
      · apply t_B
        · refine x_iload_n rfl ?_
          refine x_bipush ?_
          exact rfl
        exact t_ic_gt_f (by omega)
      apply t_Q
      · apply t_S
        refine x_aload_n rfl ?_
        refine g_gr (by omega) tg_110 rfl h0 ?_
        refine x_iload_n rfl ?_
        refine g_aald (by omega) (by rw [tg_125]; decide) (ln_125 L) (by omega) (by rw [Int.toNat_natCast]; exact h1 m) ?_
        refine x_iconst ?_
        refine x_iconst ?_
        refine g_iast (by omega) t1 ((ln_k (by omega)).trans t2) (by omega) ?_
        rw [show (0 : Int).toNat = 0 from rfl, ← g1]
        refine x_iconst ?_
        refine x_istore_n rfl ?_
        exact rfl
      apply t_Q
      · apply t_K
        apply t_W
        exact hl
      apply t_B
      · refine x_iinc rfl rfl ?_
        exact rfl
      exact t_goeq rfl
    · by_cases c : n = m
      · rw [c] at hk ⊢
        exact q1 k (by omega)
      · rw [q3 _ (by omega), g1, au_n _ _ (by omega)]; exact hJ n (by omega) k hk hk2
    · rw [q3 _ (by omega), g1, au_n _ _ (by omega)]; exact hFr a (by omega)
  · obtain ⟨J, l2', ey, hJ, hFr⟩ := hy
    subst ey
    refine ⟨(181, [vR 110, vI (31 : Nat), l2'], [], GH 159 L J R 0), ?_, by show ¬ 181 = 112 + 2; decide, J, l2', rfl, hJ, fun a ha => hFr a (by omega)⟩
    unfold wX1_init_112
    apply t_Qs
    apply t_B
    · refine x_iload_n rfl ?_
      refine x_bipush ?_
      exact rfl
    exact t_ic_gt_t (by omega)
theorem c_alg {d L : Nat} {I : Nat → Nat → Int} {R : Nat → Nat → Option Nat} (hf : Fsh 111 I R) : ∃ J S, am_run am_tb (d + 2) 8 [vR 110] (GH 111 L I R 0) = some ([], GH 159 L J S 0) ∧ (S 110 0 = some 111 ∧ S 110 1 = some 125 ∧ S 110 2 = some 157 ∧ S 157 0 = some 158) ∧ (∀ k, k ≠ 110 → k ≠ 157 → S k = R k) ∧ (∀ n, n < 13 → ∀ k, k ≤ 12 → J (112 + n) k = ch n k) ∧ (∀ n, n < 31 → ∀ k, k ≤ n → k ≤ 12 → J (126 + n) k = fal n k) ∧ ∀ a, ¬ (112 ≤ a ∧ a < 157) → J a = I a := by
  obtain ⟨R1, e1⟩ : ∃ Q, Q = au R 110 (au (R 110) 0 (some 111)) := ⟨_, rfl⟩
  have f1 : Fsh 125 I R1 := by rw [e1]; exact fsh_p (fsh_m hf (by omega)) (by omega)
  obtain ⟨R2, e2⟩ : ∃ Q, Q = au R1 110 (au (R1 110) 1 (some 125)) := ⟨_, rfl⟩
  have f2 : Fsh 157 I R2 := by rw [e2]; exact fsh_p (fsh_m f1 (by omega)) (by omega)
  obtain ⟨R3, e3⟩ : ∃ Q, Q = au R2 157 (au (R2 157) 0 (some 158)) := ⟨_, rfl⟩
  have f3 : Fsh 159 I R3 := by rw [e3]; exact fsh_p (fsh_m f2 (by omega)) (by omega)
  obtain ⟨R4, e4⟩ : ∃ Q, Q = au R3 110 (au (R3 110) 2 (some 157)) := ⟨_, rfl⟩
  have f4 : Fsh 159 I R4 := by rw [e4]; exact fsh_p (fsh_m f3 (by omega)) (by omega)
  have rx : ∀ k, k ≠ 110 → k ≠ 157 → R4 k = R k := fun k h1 h2 => by rw [e4, au_n _ _ (by omega), e3, au_n _ _ (by omega), e2, au_n _ _ (by omega), e1, au_n _ _ (by omega)]
  have q0 : R4 110 0 = some 111 := by rw [e4, aun (by decide), e3, au_n _ _ (by decide), e2, aun (by decide), e1, aup]
  have q1 : R4 110 1 = some 125 := by rw [e4, aun (by decide), e3, au_n _ _ (by decide), e2, aup]
  have q2 : R4 110 2 = some 157 := by rw [e4, aup]
  have q3 : R4 157 0 = some 158 := by rw [e4, au_n _ _ (by decide), e3, aup]
  obtain ⟨r1, hl1, J1, m1, er1, a1, a2⟩ := c_tab1 (d := d + 1) (L := L) (I := I) (R := R4) (fun k h1 h2 => fr_i hf (by omega)) q0 (fun i => by rw [rx 111 (by decide) (by decide)]; exact fr_r hf (by omega) tg_111 i) (l2 := vU)
  subst er1
  obtain ⟨r2, hl2, J2, m2, er2, b1, b2⟩ := c_tab2 (d := d) (L := L) (I := J1) (R := R4) q1 (fun i => by rw [rx 125 (by decide) (by decide)]; exact fr_r hf (by omega) tg_125 i) (l2 := m1)
  subst er2
  refine ⟨J2, R4, ?_, ⟨q0, q1, q2, q3⟩, rx, fun n hn k hk => by rw [b2 _ (by omega)]; exact a1 n hn k hk, b1, fun a ha => by rw [b2 _ (by omega), a2 _ (by omega)]⟩
  refine run_of tb_X1_init (Nat.le_of_ble_eq_true rfl) ?_
  show ∃ ls', am_ev (am_run am_tb (d + 1)) tX1_init ([vR 110, vU, vU], [], GH 111 L I R 0) = _
  apply Exists.intro
  unfold tX1_init
  apply t_Q
  · apply t_S
    refine x_aload_n rfl ?_
    refine g_super (Nat.le_of_ble_eq_true rfl) ?_
    refine x_aload_n rfl ?_
    refine x_bipush ?_
    refine x_bipush ?_
    refine g_rows tg_111 (ln_111 L) rfl rfl (by decide) (fr_r hf (by omega) tg_111) (fun k k1 k2 => ⟨(ly_111 k k1 k2).1, (ln_k (by omega)).trans (ly_111 k k1 k2).2, fr_i hf (by omega)⟩) ?_
    refine g_pr (by omega) tg_110 rfl ?_
    rw [← e1]
    refine x_aload_n rfl ?_
    refine x_bipush ?_
    refine x_bipush ?_
    refine g_rows tg_125 (ln_125 L) rfl rfl (by decide) (fr_r f1 (by omega) tg_125) (fun k k1 k2 => ⟨(ly_125 k k1 k2).1, (ln_k (by omega)).trans (ly_125 k k1 k2).2, fr_i f1 (by omega)⟩) ?_
    refine g_pr (by omega) tg_110 rfl ?_
    rw [← e2]
    refine x_aload_n rfl ?_
    refine g_new tg_157 (by decide) (ln_157 L) (fr_i f2 (by omega)) (fr_n f2 (by omega) tg_157 (by decide)) rfl ?_
    refine x_dup rfl ?_
    refine g_spec (vs := []) (by decide) (by omega) tg_157 rfl (Nat.le_of_ble_eq_true rfl) (c_op (d := d) (by omega) (fsh_m f2 (by omega)) tg_157 tg_158 (ln_158 L)) ?_
    rw [← e3]
    refine g_pr (by omega) tg_110 rfl ?_
    rw [← e4]
    refine x_iconst ?_
    refine x_istore_n rfl ?_
    exact rfl
  apply t_Q
  · apply t_K
    apply t_W
    exact hl1
  apply t_Q
  · apply t_S
    refine x_iconst ?_
    refine x_istore_n rfl ?_
    exact rfl
  apply t_Q
  · apply t_K
    apply t_W
    exact hl2
  apply t_B
  · exact rfl
  exact rfl
