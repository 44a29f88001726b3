/-! Constructors: the reference. Written by wip/whole/gen_bk.py. -/
/-- the references of the reference -/
def Mf (S : Nat → Nat → Option Nat) : Prop := S 301 0 = some 302 ∧ S 301 1 = some 303 ∧ S 301 3 = some 304 ∧ S 301 4 = some 305 ∧ S 301 6 = some 306 ∧ S 301 7 = some 307 ∧ S 301 8 = some 308 ∧ S 301 9 = some 309 ∧ S 301 10 = some 310 ∧ S 301 11 = some 311 ∧ S 301 12 = some 312 ∧ S 301 14 = some 313 ∧ S 301 15 = some 314 ∧ S 301 25 = some 315 ∧ S 301 26 = some 316 ∧ S 301 28 = some 317
theorem c_tabM {d L : Nat} {I : Nat → Nat → Int} {R : Nat → Nat → Option Nat} (h9 : ∀ i, I 309 i = 0) (h7 : R 301 7 = some 307) (h8 : R 301 8 = some 308) (h10 : R 301 9 = some 309) {l2 : am_V} : ∃ r, am_lp (am_ev (am_run am_tb (d + 1)) wX12_init_141) 141 am_F ([vR 301, vI (0 : Nat), l2], [], GH 318 L I R 0) = some r ∧ ∃ J l2', r = (248, [vR 301, vI (31 : Nat), l2'], [], GH 318 L J R 0) ∧ (∀ w, w < 496 → J 307 w = (xw w : Nat) ∧ J 308 w = (dw w : Nat)) ∧ (∀ m, m < 31 → ∀ k, k ≤ 30 → J 309 (31 * m + k) = ch m k) ∧ ∀ a, a ≠ 307 → a ≠ 308 → a ≠ 309 → J a = I a := by
  refine lp_inv (fun n y => ∃ J l2', y = ([vR 301, vI (n : Nat), l2'], [], GH 318 L J R 0) ∧ (∀ w, w < tri n → J 307 w = (xw w : Nat) ∧ J 308 w = (dw w : Nat)) ∧ (∀ m, m < n → ∀ k, k ≤ 30 → J 309 (31 * m + k) = ch m k) ∧ (∀ x, 31 * n ≤ x → J 309 x = 0) ∧ ∀ a, a ≠ 307 → a ≠ 308 → a ≠ 309 → J a = I a) _ 31 ⟨I, l2, rfl, fun w hw => absurd hw (Nat.not_lt_zero _), fun n hn => absurd hn (Nat.not_lt_zero _), fun x _ => h9 x, fun _ _ _ _ => rfl⟩ (ltF (by omega)) (fun n y hn hy => ?_) (fun y hy => ?_)
  · obtain ⟨J, l2', ey, j1, j2, j3, j4⟩ := hy
    subst ey
    have h31 : tri (n + 1) ≤ 496 := by have := tri_m (show n + 1 ≤ 31 by omega); rw [tri_31] at this; exact this
    have hs := tri_s n
    have hin : ∃ r, am_lp (am_ev (am_run am_tb (d + 1)) wX12_init_149) 149 am_F ([vR 301, vI (n : Nat), vI (0 : Nat)], [], GH 318 L J R 0) = some r ∧ ∃ Q, r = (242, [vR 301, vI (n : Nat), vI (n + 1 : Nat)], [], GH 318 L Q R 0) ∧ (∀ w, w < tri n + (n + 1) → Q 307 w = (xw w : Nat) ∧ Q 308 w = (dw w : Nat)) ∧ (∀ m, m < n → ∀ k, k ≤ 30 → Q 309 (31 * m + k) = ch m k) ∧ (∀ k, k < n + 1 → Q 309 (31 * n + k) = ch n k) ∧ (∀ x, 31 * n + (n + 1) ≤ x → Q 309 x = 0) ∧ ∀ a, a ≠ 307 → a ≠ 308 → a ≠ 309 → Q a = I a := by
      refine lp_inv (fun t y => ∃ Q, y = ([vR 301, vI (n : Nat), vI (t : Nat)], [], GH 318 L Q R 0) ∧ (∀ w, w < tri n + t → Q 307 w = (xw w : Nat) ∧ Q 308 w = (dw w : Nat)) ∧ (∀ m, m < n → ∀ k, k ≤ 30 → Q 309 (31 * m + k) = ch m k) ∧ (∀ k, k < t → Q 309 (31 * n + k) = ch n k) ∧ (∀ x, 31 * n + t ≤ x → Q 309 x = 0) ∧ ∀ a, a ≠ 307 → a ≠ 308 → a ≠ 309 → Q a = I a) _ (n + 1) ⟨J, rfl, fun w hw => j1 w (by omega), j2, fun k hk => absurd hk (Nat.not_lt_zero _), fun x hx => j3 x (by omega), j4⟩ (ltF (by omega)) (fun t y ht hy => ?_) (fun y hy => ?_)
      · obtain ⟨Q, ey, q1, q2, q3, q4, q5⟩ := hy
        subst ey
        obtain ⟨x1, x2⟩ := tri_w (D := n) (j := t) (by omega)
        have hw1 : am_run am_tb (d + 1) 132 [vI (((n : Nat) : Int) - (t : Nat)), vI (t : Nat)] = fun h => some ([vI ((tri n + t : Nat) : Int)], h) := by
          funext h
          rw [s_wordAt (d := d) (by omega) (by omega), show ((n : Nat) : Int) - (t : Nat) + (t : Nat) = (n : Nat) by omega, tri_int]
          rfl
        obtain ⟨Q1, g1⟩ : ∃ X, X = au Q 307 (au (Q 307) (tri n + t) (((n : Nat) : Int) - (t : Nat))) := ⟨_, rfl⟩
        obtain ⟨Q2, g2⟩ : ∃ X, X = au Q1 308 (au (Q1 308) (tri n + t) ((t : Nat) : Int)) := ⟨_, rfl⟩
        have e309 : Q2 309 = Q 309 := by rw [g2, au_n _ _ (by decide), g1, au_n _ _ (by decide)]
        have b0 := ch_b n t
        obtain ⟨Q3, g3⟩ : ∃ X, X = au Q2 309 (au (Q2 309) (31 * n + t) (ch n t)) := ⟨_, rfl⟩
        refine ⟨([vR 301, vI (n : Nat), vI (t + 1 : Nat)], [], GH 318 L Q3 R 0), ?_, Q3, rfl, fun w hw => ?_, fun m hm k hk => ?_, fun k hk => ?_, fun x hx => ?_, fun a a1 a2 a3 => ?_⟩
        · by_cases c0 : t = 0
          · have ech : ch n t = 1 := by rw [c0]; exact ch_0 n
            rw [ech] at g3
            unfold wX12_init_149
            apply t_Q
            · apply t_B
              · refine x_iload_n rfl ?_
                refine x_iload_n rfl ?_
                exact rfl
              exact t_ic_gt_f (by omega)
            apply t_Q
            · apply t_S
              refine x_aload_n rfl ?_
              refine g_gr (by omega) tg_301 rfl h7 ?_
              refine x_iload_n rfl ?_
              refine x_iload_n rfl ?_
              refine x_isub ?_
              refine x_iload_n rfl ?_
              refine x_S2i (by decide) (Nat.le_of_ble_eq_true rfl) (congrFun hw1 _) ?_
              refine x_iload_n rfl ?_
              refine x_iload_n rfl ?_
              refine x_isub ?_
              refine g_iast (by omega) tg_307 (ln_307 L) (by omega) ?_
              rw [Int.toNat_natCast, ← g1]
              refine x_aload_n rfl ?_
              refine g_gr (by omega) tg_301 rfl h8 ?_
              refine x_iload_n rfl ?_
              refine x_iload_n rfl ?_
              refine x_isub ?_
              refine x_iload_n rfl ?_
              refine x_S2i (by decide) (Nat.le_of_ble_eq_true rfl) (congrFun hw1 _) ?_
              refine x_iload_n rfl ?_
              refine g_iast (by omega) tg_308 (ln_308 L) (by omega) ?_
              rw [Int.toNat_natCast, ← g2]
              refine x_aload_n rfl ?_
              refine g_gr (by omega) tg_301 rfl h10 ?_
              refine x_bipush ?_
              refine x_iload_n rfl ?_
              refine x_imul ?_
              refine x_iload_n rfl ?_
              refine x_iadd ?_
              refine x_iload_n rfl ?_
              exact rfl
            apply t_Q
            · apply t_K
              apply t_Qs
              apply t_Ks
              · apply t_Q
                · apply t_B
                  · exact rfl
                  exact t_if_ne_f (by omega)
                apply t_B
                · refine x_iconst ?_
                  exact rfl
                exact t_goto
              · decide
            apply t_B
            · refine g_iast (by omega) tg_309 (ln_309 L) (by omega) ?_
              rw [show (31 * ((n : Nat) : Int) + (t : Nat)).toNat = 31 * n + t by omega, ← g3]
              refine x_iinc rfl rfl ?_
              exact rfl
            exact t_goeq rfl
          · have hn0 : 0 < n := by omega
            obtain ⟨p, hp⟩ : ∃ p, n = p + 1 := ⟨n - 1, by omega⟩
            obtain ⟨s, hs'⟩ : ∃ s, t = s + 1 := ⟨t - 1, by omega⟩
            have ech : ch n t = (ch p t + ch p s) % 10007 := by rw [hp, hs']; rfl
            have v1 : Q2 309 (31 * n + t - 31) = ch p t := by rw [e309, show 31 * n + t - 31 = 31 * p + t by omega]; exact q2 p (by omega) t (by omega)
            have v2 : Q2 309 (31 * n + t - 32) = ch p s := by rw [e309, show 31 * n + t - 32 = 31 * p + s by omega]; exact q2 p (by omega) s (by omega)
            have b1 := ch_b p t
            have b2 := ch_b p s
            rw [ech] at g3
            unfold wX12_init_149
            apply t_Q
            · apply t_B
              · refine x_iload_n rfl ?_
                refine x_iload_n rfl ?_
                exact rfl
              exact t_ic_gt_f (by omega)
            apply t_Q
            · apply t_S
              refine x_aload_n rfl ?_
              refine g_gr (by omega) tg_301 rfl h7 ?_
              refine x_iload_n rfl ?_
              refine x_iload_n rfl ?_
              refine x_isub ?_
              refine x_iload_n rfl ?_
              refine x_S2i (by decide) (Nat.le_of_ble_eq_true rfl) (congrFun hw1 _) ?_
              refine x_iload_n rfl ?_
              refine x_iload_n rfl ?_
              refine x_isub ?_
              refine g_iast (by omega) tg_307 (ln_307 L) (by omega) ?_
              rw [Int.toNat_natCast, ← g1]
              refine x_aload_n rfl ?_
              refine g_gr (by omega) tg_301 rfl h8 ?_
              refine x_iload_n rfl ?_
              refine x_iload_n rfl ?_
              refine x_isub ?_
              refine x_iload_n rfl ?_
              refine x_S2i (by decide) (Nat.le_of_ble_eq_true rfl) (congrFun hw1 _) ?_
              refine x_iload_n rfl ?_
              refine g_iast (by omega) tg_308 (ln_308 L) (by omega) ?_
              rw [Int.toNat_natCast, ← g2]
              refine x_aload_n rfl ?_
              refine g_gr (by omega) tg_301 rfl h10 ?_
              refine x_bipush ?_
              refine x_iload_n rfl ?_
              refine x_imul ?_
              refine x_iload_n rfl ?_
              refine x_iadd ?_
              refine x_iload_n rfl ?_
              exact rfl
            apply t_Q
            · apply t_Ks
              · apply t_Q
                · apply t_K
                  apply t_Qs
                  apply t_B
                  · exact rfl
                  exact t_if_ne_t (by omega)
                apply t_S
                refine x_aload_n rfl ?_
                refine g_gr (by omega) tg_301 rfl h10 ?_
                refine x_bipush ?_
                refine x_iload_n rfl ?_
                refine x_imul ?_
                refine x_iload_n rfl ?_
                refine x_iadd ?_
                refine x_bipush ?_
                refine x_isub ?_
                refine g_iald (by omega) tg_309 (ln_309 L) (by omega) ?_
                rw [show (31 * ((n : Nat) : Int) + (t : Nat) - 31).toNat = 31 * n + t - 31 by omega, v1]
                refine x_aload_n rfl ?_
                refine g_gr (by omega) tg_301 rfl h10 ?_
                refine x_bipush ?_
                refine x_iload_n rfl ?_
                refine x_imul ?_
                refine x_iload_n rfl ?_
                refine x_iadd ?_
                refine x_bipush ?_
                refine x_isub ?_
                refine g_iald (by omega) tg_309 (ln_309 L) (by omega) ?_
                rw [show (31 * ((n : Nat) : Int) + (t : Nat) - 32).toNat = 31 * n + t - 32 by omega, v2]
                refine x_iadd ?_
                refine x_sipush ?_
                refine x_irem0 (by omega) ?_
                exact rfl
              · decide
            apply t_B
            · refine g_iast (by omega) tg_309 (ln_309 L) (by omega) ?_
              rw [show (31 * ((n : Nat) : Int) + (t : Nat)).toNat = 31 * n + t by omega, ← g3]
              refine x_iinc rfl rfl ?_
              exact rfl
            exact t_goeq rfl
        · by_cases e : w = tri n + t
          · rw [e, x1, x2]
            refine ⟨?_, ?_⟩
            · rw [g3, au_n _ _ (by decide), g2, au_n _ _ (by decide), g1, au_s, au_s]; omega
            · rw [g3, au_n _ _ (by decide), g2, au_s, au_s]
          · refine ⟨?_, ?_⟩
            · rw [g3, au_n _ _ (by decide), g2, au_n _ _ (by decide), g1, au_s, au_n _ _ e]; exact (q1 w (by omega)).1
            · rw [g3, au_n _ _ (by decide), g2, au_s, au_n _ _ e, g1, au_n _ _ (by decide)]; exact (q1 w (by omega)).2
        · rw [g3, au_s, au_n _ _ (by omega), e309]; exact q2 m hm k hk
        · by_cases e : k = t
          · rw [e, g3, au_s, au_s]
          · rw [g3, au_s, au_n _ _ (by omega), e309]; exact q3 k (by omega)
        · rw [g3, au_s, au_n _ _ (by omega), e309]; exact q4 x (by omega)
        · rw [g3, au_n _ _ a3, g2, au_n _ _ a2, g1, au_n _ _ a1]; exact q5 a a1 a2 a3
      · obtain ⟨Q, ey, q1, q2, q3, q4, q5⟩ := hy
        subst ey
        refine ⟨(242, [vR 301, vI (n : Nat), vI (n + 1 : Nat)], [], GH 318 L Q R 0), ?_, by show ¬ 242 = 149 + 2; decide, Q, rfl, q1, q2, q3, q4, q5⟩
        unfold wX12_init_149
        apply t_Qs
        apply t_B
        · refine x_iload_n rfl ?_
          refine x_iload_n rfl ?_
          exact rfl
        exact t_ic_gt_t (by omega)
    obtain ⟨r, hl, Q, er, q1, q2, q3, q4, q5⟩ := hin
    subst er
    refine ⟨([vR 301, vI (n + 1 : Nat), vI (n + 1 : Nat)], [], GH 318 L Q R 0), ?_, Q, _, rfl, fun w hw => q1 w (by omega), fun m hm k hk => ?_, fun x hx => q4 x (by omega), q5⟩
    · unfold wX12_init_141
      apply t_Q
      · apply t_B
        · refine x_iload_n rfl ?_
          refine x_bipush ?_
          exact rfl
        exact t_ic_gt_f (by omega)
      apply t_Q
      · apply t_S
        refine x_iconst ?_
        refine x_istore_n rfl ?_
        exact rfl
      apply t_Q
      · apply t_K
        apply t_W
        exact hl
      apply t_B
      · refine x_iinc rfl rfl ?_
        exact rfl
      exact t_goeq rfl
    · by_cases e : m = n
      · rw [e]
        by_cases c : k < n + 1
        · exact q3 k c
        · rw [q4 _ (by omega), ch_o (by omega)]
      · exact q2 m (by omega) k hk
  · obtain ⟨J, l2', ey, j1, j2, j3, j4⟩ := hy
    subst ey
    refine ⟨(248, [vR 301, vI (31 : Nat), l2'], [], GH 318 L J R 0), ?_, by show ¬ 248 = 141 + 2; decide, J, l2', rfl, fun w hw => j1 w (by rw [tri_31]; exact hw), j2, j4⟩
    unfold wX12_init_141
    apply t_Qs
    apply t_B
    · refine x_iload_n rfl ?_
      refine x_bipush ?_
      exact rfl
    exact t_ic_gt_t (by omega)
theorem c_M {d L : Nat} {I : Nat → Nat → Int} {R : Nat → Nat → Option Nat} (hf : Fsh 302 I R) : ∃ J S, am_run am_tb (d + 2) 130 [vR 301] (GH 302 L I R 0) = some ([], GH 318 L J S 0) ∧ Mf S ∧ (∀ k, k ≠ 301 → S k = R k) ∧ (∀ w, w < 496 → J 307 w = (xw w : Nat) ∧ J 308 w = (dw w : Nat)) ∧ (∀ m, m < 31 → ∀ k, k ≤ 30 → J 309 (31 * m + k) = ch m k) ∧ ∀ a, a ≠ 307 → a ≠ 308 → a ≠ 309 → J a = I a := by
  obtain ⟨R1, e1⟩ : ∃ Q, Q = au R 301 (au (R 301) 0 (some 302)) := ⟨_, rfl⟩
  have f1 : Fsh 303 I R1 := by rw [e1]; exact fsh_p (fsh_m hf (by omega)) (by omega)
  obtain ⟨R2, e2⟩ : ∃ Q, Q = au R1 301 (au (R1 301) 1 (some 303)) := ⟨_, rfl⟩
  have f2 : Fsh 304 I R2 := by rw [e2]; exact fsh_p (fsh_m f1 (by omega)) (by omega)
  obtain ⟨R3, e3⟩ : ∃ Q, Q = au R2 301 (au (R2 301) 3 (some 304)) := ⟨_, rfl⟩
  have f3 : Fsh 305 I R3 := by rw [e3]; exact fsh_p (fsh_m f2 (by omega)) (by omega)
  obtain ⟨R4, e4⟩ : ∃ Q, Q = au R3 301 (au (R3 301) 4 (some 305)) := ⟨_, rfl⟩
  have f4 : Fsh 306 I R4 := by rw [e4]; exact fsh_p (fsh_m f3 (by omega)) (by omega)
  obtain ⟨R5, e5⟩ : ∃ Q, Q = au R4 301 (au (R4 301) 6 (some 306)) := ⟨_, rfl⟩
  have f5 : Fsh 307 I R5 := by rw [e5]; exact fsh_p (fsh_m f4 (by omega)) (by omega)
  obtain ⟨R6, e6⟩ : ∃ Q, Q = au R5 301 (au (R5 301) 7 (some 307)) := ⟨_, rfl⟩
  have f6 : Fsh 308 I R6 := by rw [e6]; exact fsh_p (fsh_m f5 (by omega)) (by omega)
  obtain ⟨R7, e7⟩ : ∃ Q, Q = au R6 301 (au (R6 301) 8 (some 308)) := ⟨_, rfl⟩
  have f7 : Fsh 309 I R7 := by rw [e7]; exact fsh_p (fsh_m f6 (by omega)) (by omega)
  obtain ⟨R8, e8⟩ : ∃ Q, Q = au R7 301 (au (R7 301) 9 (some 309)) := ⟨_, rfl⟩
  have f8 : Fsh 310 I R8 := by rw [e8]; exact fsh_p (fsh_m f7 (by omega)) (by omega)
  obtain ⟨R9, e9⟩ : ∃ Q, Q = au R8 301 (au (R8 301) 10 (some 310)) := ⟨_, rfl⟩
  have f9 : Fsh 311 I R9 := by rw [e9]; exact fsh_p (fsh_m f8 (by omega)) (by omega)
  obtain ⟨R10, e10⟩ : ∃ Q, Q = au R9 301 (au (R9 301) 11 (some 311)) := ⟨_, rfl⟩
  have f10 : Fsh 312 I R10 := by rw [e10]; exact fsh_p (fsh_m f9 (by omega)) (by omega)
  obtain ⟨R11, e11⟩ : ∃ Q, Q = au R10 301 (au (R10 301) 12 (some 312)) := ⟨_, rfl⟩
  have f11 : Fsh 313 I R11 := by rw [e11]; exact fsh_p (fsh_m f10 (by omega)) (by omega)
  obtain ⟨R12, e12⟩ : ∃ Q, Q = au R11 301 (au (R11 301) 14 (some 313)) := ⟨_, rfl⟩
  have f12 : Fsh 314 I R12 := by rw [e12]; exact fsh_p (fsh_m f11 (by omega)) (by omega)
  obtain ⟨R13, e13⟩ : ∃ Q, Q = au R12 301 (au (R12 301) 15 (some 314)) := ⟨_, rfl⟩
  have f13 : Fsh 315 I R13 := by rw [e13]; exact fsh_p (fsh_m f12 (by omega)) (by omega)
  obtain ⟨R14, e14⟩ : ∃ Q, Q = au R13 301 (au (R13 301) 25 (some 315)) := ⟨_, rfl⟩
  have f14 : Fsh 316 I R14 := by rw [e14]; exact fsh_p (fsh_m f13 (by omega)) (by omega)
  obtain ⟨R15, e15⟩ : ∃ Q, Q = au R14 301 (au (R14 301) 26 (some 316)) := ⟨_, rfl⟩
  have f15 : Fsh 317 I R15 := by rw [e15]; exact fsh_p (fsh_m f14 (by omega)) (by omega)
  obtain ⟨R16, e16⟩ : ∃ Q, Q = au R15 301 (au (R15 301) 28 (some 317)) := ⟨_, rfl⟩
  have f16 : Fsh 318 I R16 := by rw [e16]; exact fsh_p (fsh_m f15 (by omega)) (by omega)
  have q0 : R16 301 0 = some 302 := by rw [e16, aun (by decide), e15, aun (by decide), e14, aun (by decide), e13, aun (by decide), e12, aun (by decide), e11, aun (by decide), e10, aun (by decide), e9, aun (by decide), e8, aun (by decide), e7, aun (by decide), e6, aun (by decide), e5, aun (by decide), e4, aun (by decide), e3, aun (by decide), e2, aun (by decide), e1, aup]
  have q1 : R16 301 1 = some 303 := by rw [e16, aun (by decide), e15, aun (by decide), e14, aun (by decide), e13, aun (by decide), e12, aun (by decide), e11, aun (by decide), e10, aun (by decide), e9, aun (by decide), e8, aun (by decide), e7, aun (by decide), e6, aun (by decide), e5, aun (by decide), e4, aun (by decide), e3, aun (by decide), e2, aup]
  have q3 : R16 301 3 = some 304 := by rw [e16, aun (by decide), e15, aun (by decide), e14, aun (by decide), e13, aun (by decide), e12, aun (by decide), e11, aun (by decide), e10, aun (by decide), e9, aun (by decide), e8, aun (by decide), e7, aun (by decide), e6, aun (by decide), e5, aun (by decide), e4, aun (by decide), e3, aup]
  have q4 : R16 301 4 = some 305 := by rw [e16, aun (by decide), e15, aun (by decide), e14, aun (by decide), e13, aun (by decide), e12, aun (by decide), e11, aun (by decide), e10, aun (by decide), e9, aun (by decide), e8, aun (by decide), e7, aun (by decide), e6, aun (by decide), e5, aun (by decide), e4, aup]
  have q6 : R16 301 6 = some 306 := by rw [e16, aun (by decide), e15, aun (by decide), e14, aun (by decide), e13, aun (by decide), e12, aun (by decide), e11, aun (by decide), e10, aun (by decide), e9, aun (by decide), e8, aun (by decide), e7, aun (by decide), e6, aun (by decide), e5, aup]
  have q7 : R16 301 7 = some 307 := by rw [e16, aun (by decide), e15, aun (by decide), e14, aun (by decide), e13, aun (by decide), e12, aun (by decide), e11, aun (by decide), e10, aun (by decide), e9, aun (by decide), e8, aun (by decide), e7, aun (by decide), e6, aup]
  have q8 : R16 301 8 = some 308 := by rw [e16, aun (by decide), e15, aun (by decide), e14, aun (by decide), e13, aun (by decide), e12, aun (by decide), e11, aun (by decide), e10, aun (by decide), e9, aun (by decide), e8, aun (by decide), e7, aup]
  have q9 : R16 301 9 = some 309 := by rw [e16, aun (by decide), e15, aun (by decide), e14, aun (by decide), e13, aun (by decide), e12, aun (by decide), e11, aun (by decide), e10, aun (by decide), e9, aun (by decide), e8, aup]
  have q10 : R16 301 10 = some 310 := by rw [e16, aun (by decide), e15, aun (by decide), e14, aun (by decide), e13, aun (by decide), e12, aun (by decide), e11, aun (by decide), e10, aun (by decide), e9, aup]
  have q11 : R16 301 11 = some 311 := by rw [e16, aun (by decide), e15, aun (by decide), e14, aun (by decide), e13, aun (by decide), e12, aun (by decide), e11, aun (by decide), e10, aup]
  have q12 : R16 301 12 = some 312 := by rw [e16, aun (by decide), e15, aun (by decide), e14, aun (by decide), e13, aun (by decide), e12, aun (by decide), e11, aup]
  have q14 : R16 301 14 = some 313 := by rw [e16, aun (by decide), e15, aun (by decide), e14, aun (by decide), e13, aun (by decide), e12, aup]
  have q15 : R16 301 15 = some 314 := by rw [e16, aun (by decide), e15, aun (by decide), e14, aun (by decide), e13, aup]
  have q25 : R16 301 25 = some 315 := by rw [e16, aun (by decide), e15, aun (by decide), e14, aup]
  have q26 : R16 301 26 = some 316 := by rw [e16, aun (by decide), e15, aup]
  have q28 : R16 301 28 = some 317 := by rw [e16, aup]
  obtain ⟨r, hl, J, l2', er, a1, a2, a3⟩ := c_tabM (d := d) (L := L) (I := I) (R := R16) (fr_i hf (by omega)) q7 q8 q9 (l2 := vU)
  subst er
  refine ⟨J, R16, ?_, ⟨q0, q1, q3, q4, q6, q7, q8, q9, q10, q11, q12, q14, q15, q25, q26, q28⟩, fun k hk => by rw [e16, au_n _ _ (by omega), e15, au_n _ _ (by omega), e14, au_n _ _ (by omega), e13, au_n _ _ (by omega), e12, au_n _ _ (by omega), e11, au_n _ _ (by omega), e10, au_n _ _ (by omega), e9, au_n _ _ (by omega), e8, au_n _ _ (by omega), e7, au_n _ _ (by omega), e6, au_n _ _ (by omega), e5, au_n _ _ (by omega), e4, au_n _ _ (by omega), e3, au_n _ _ (by omega), e2, au_n _ _ (by omega), e1, au_n _ _ (by omega)], a1, a2, a3⟩
  refine run_of tb_X12_init (Nat.le_of_ble_eq_true rfl) ?_
  show ∃ ls', am_ev (am_run am_tb (d + 1)) tX12_init ([vR 301, vU, vU], [], GH 302 L I R 0) = _
  apply Exists.intro
  unfold tX12_init
  apply t_Q
  · apply t_S
    refine x_aload_n rfl ?_
    refine g_super (Nat.le_of_ble_eq_true rfl) ?_
    refine x_aload_n rfl ?_
    refine x_sipush ?_
    refine g_na tg_302 (Or.inl rfl) (ln_302 L) rfl (by decide) (fr_i hf (by omega)) ?_
    refine g_pr (by omega) tg_301 rfl ?_
    rw [← e1]
    refine x_aload_n rfl ?_
    refine x_sipush ?_
    refine g_na tg_303 (Or.inl rfl) (ln_303 L) rfl (by decide) (fr_i f1 (by omega)) ?_
    refine g_pr (by omega) tg_301 rfl ?_
    rw [← e2]
    refine x_aload_n rfl ?_
    refine x_iconst ?_
    refine g_na tg_304 (Or.inl rfl) (ln_304 L) rfl (by decide) (fr_i f2 (by omega)) ?_
    refine g_pr (by omega) tg_301 rfl ?_
    rw [← e3]
    refine x_aload_n rfl ?_
    refine x_bipush ?_
    refine g_na tg_305 (Or.inl rfl) (ln_305 L) rfl (by decide) (fr_i f3 (by omega)) ?_
    refine g_pr (by omega) tg_301 rfl ?_
    rw [← e4]
    refine x_aload_n rfl ?_
    refine x_sipush ?_
    refine g_na tg_306 (Or.inl rfl) (ln_306 L) rfl (by decide) (fr_i f4 (by omega)) ?_
    refine g_pr (by omega) tg_301 rfl ?_
    rw [← e5]
    refine x_aload_n rfl ?_
    refine x_sipush ?_
    refine g_na tg_307 (Or.inl rfl) (ln_307 L) rfl (by decide) (fr_i f5 (by omega)) ?_
    refine g_pr (by omega) tg_301 rfl ?_
    rw [← e6]
    refine x_aload_n rfl ?_
    refine x_sipush ?_
    refine g_na tg_308 (Or.inl rfl) (ln_308 L) rfl (by decide) (fr_i f6 (by omega)) ?_
    refine g_pr (by omega) tg_301 rfl ?_
    rw [← e7]
    refine x_aload_n rfl ?_
    refine x_sipush ?_
    refine g_na tg_309 (Or.inl rfl) (ln_309 L) rfl (by decide) (fr_i f7 (by omega)) ?_
    refine g_pr (by omega) tg_301 rfl ?_
    rw [← e8]
    refine x_aload_n rfl ?_
    refine x_bipush ?_
    refine g_na tg_310 (Or.inl rfl) (ln_310 L) rfl (by decide) (fr_i f8 (by omega)) ?_
    refine g_pr (by omega) tg_301 rfl ?_
    rw [← e9]
    refine x_aload_n rfl ?_
    refine x_sipush ?_
    refine g_na tg_311 (Or.inl rfl) (ln_311 L) rfl (by decide) (fr_i f9 (by omega)) ?_
    refine g_pr (by omega) tg_301 rfl ?_
    rw [← e10]
    refine x_aload_n rfl ?_
    refine x_bipush ?_
    refine g_na tg_312 (Or.inl rfl) (ln_312 L) rfl (by decide) (fr_i f10 (by omega)) ?_
    refine g_pr (by omega) tg_301 rfl ?_
    rw [← e11]
    refine x_aload_n rfl ?_
    refine x_bipush ?_
    refine g_na tg_313 (Or.inl rfl) (ln_313 L) rfl (by decide) (fr_i f11 (by omega)) ?_
    refine g_pr (by omega) tg_301 rfl ?_
    rw [← e12]
    refine x_aload_n rfl ?_
    refine x_bipush ?_
    refine g_na tg_314 (Or.inl rfl) (ln_314 L) rfl (by decide) (fr_i f12 (by omega)) ?_
    refine g_pr (by omega) tg_301 rfl ?_
    rw [← e13]
    refine x_aload_n rfl ?_
    refine x_bipush ?_
    refine g_na tg_315 (Or.inr rfl) (ln_315 L) rfl (by decide) (fr_i f13 (by omega)) ?_
    refine g_pr (by omega) tg_301 rfl ?_
    rw [← e14]
    refine x_aload_n rfl ?_
    refine x_bipush ?_
    refine g_na tg_316 (Or.inr rfl) (ln_316 L) rfl (by decide) (fr_i f14 (by omega)) ?_
    refine g_pr (by omega) tg_301 rfl ?_
    rw [← e15]
    refine x_aload_n rfl ?_
    refine x_sipush ?_
    refine g_na tg_317 (Or.inl rfl) (ln_317 L) rfl (by decide) (fr_i f15 (by omega)) ?_
    refine g_pr (by omega) tg_301 rfl ?_
    rw [← e16]
    refine x_iconst ?_
    refine x_istore_n rfl ?_
    exact rfl
  apply t_Q
  · apply t_K
    apply t_W
    exact hl
  apply t_B
  · exact rfl
  exact rfl
