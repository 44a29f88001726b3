/-! The class: handOver, find. Written by wip/whole/gen_9n.py. -/
theorem cnP_b {p : Nat → Prop} {n : Nat} : cnP p n ≤ n := by
  induction n with
  | zero => exact Nat.le_refl 0
  | succ n ih =>
    show cnP p n + @ite _ (p n) (Classical.propDecidable _) 1 0 ≤ n + 1
    split <;> omega
theorem surj {f : Nat → Nat} {n : Nat} (h1 : ∀ t, t < n → f t < n) (h2 : ∀ t t', t < n → t' < n → f t = f t' → t = t') {m : Nat} (hm : m < n) : ∃ t, t < n ∧ f t = m := by
  refine Classical.byContradiction fun q => ?_
  have e1 := cnP_ld (q := n) (N := n) (l := f) (fun k k' hk hk' he _ => h2 k k' hk hk' he)
  have e2 : cnP (fun k => f k < n) n = n := by
    rw [cnP_c (q := fun k => k < n) (fun k hk => ⟨fun _ => hk, fun _ => h1 k hk⟩)]
    exact cnP_lt (Nat.le_refl n)
  have e3 := cnP_or (p := fun m => ∃ k, k < n ∧ f k = m) hm q
  have e4 := cnP_b (p := fun k => (∃ t, t < n ∧ f t = k) ∨ k = m) (n := n)
  omega
/-- the height of a kept row's lead -/
def hgt (o : Int) (s : C6) (m : Nat) : Nat := rk o (pl (s.2.2.2.1 m) (s.2.2.2.2.1 m))
/-- t rows have been handed over, by their heights -/
def HoI (o : Int) (s : C6) (t : Nat) (A : Int) (π : Nat → Nat) : Prop := (∀ k, k < t → π k < s.1 ∧ ((hgt o s (π k) : Nat) : Int) ≤ A) ∧ (∀ i j, i < j → j < t → hgt o s (π i) < hgt o s (π j)) ∧ (∀ m, m < s.1 → ((hgt o s m : Nat) : Int) ≤ A → ∃ i, i < t ∧ π i = m)
theorem Cst_o {I J : Nat → Nat → Int} {R : Nat → Nat → Option Nat} {ρ : Nat → Nat} {o : Int} {s : C6} (hC : CsS I R ρ o s) (h : ∀ x, ¬ (171 ≤ x ∧ x ≤ 222) → J x = I x) : CsS J R ρ o s := by
  obtain ⟨hP, c8, c9, c10, c6, cF, cl_, cs⟩ := hC
  refine ⟨hP, by rw [h 165 (by omega)]; exact c8, by rw [h 165 (by omega)]; exact c9, by rw [h 165 (by omega)]; exact c10, c6, fun m hm => ⟨(cF m hm).1, fun j hj => ?_⟩, fun m hm => by rw [h 168 (by omega), h 169 (by omega)]; exact cl_ m hm, fun m hm => by rw [h 170 (by omega)]; exact cs m hm⟩
  rw [h _ (by omega)]; exact (cF m hm).2 j hj
theorem Bac_c {I : Nat → Nat → Int} {a n : Nat} {lw' lw'' : Nat → Nat} {G G' : Nat → Nat → Int} (h : Bac I a n lw' G) (h1 : ∀ k, k < n → lw' k = lw'' k) (h2 : ∀ k, k < n → G k = G' k) : Bac I a n lw'' G' := ⟨h.1, h.2.1, fun k hk => by rw [← h1 k hk, ← h2 k hk]; exact h.2.2 k hk⟩
set_option maxRecDepth 10000 in
theorem s3_hand {d L : Nat} {I : Nat → Nat → Int} {R : Nat → Nat → Option Nat} {u : Int64} (hF : FixR R) (hB : Tbc I) {ρ : Nat → Nat} {o : Int} (h0 : o = 0 ∨ o = 1) {s : C6} (hC : CsS I R ρ o s) (hK : ∀ k, k < s.1 → led o (s.2.2.1 k) = (pl (s.2.2.2.1 k) (s.2.2.2.2.1 k) : Nat)) (hκ : s.1 ≤ 4) (hinj : ∀ k l, k < s.1 → l < s.1 → hgt o s k = hgt o s l → k = l) {a : Nat} (ha : Bax R a) (ho : I a 4 = o) (hc0 : I a 5 = 0) : ∃ (J : Nat → Nat → Int) (π : Nat → Nat), am_run am_tb (d + 5) 35 [vR 165, vR a] (LH L I R u) = some ([], LH L J R u) ∧ Bac J a s.1 (fun k => pl (s.2.2.2.1 (π k)) (s.2.2.2.2.1 (π k))) (fun k => s.2.2.1 (π k)) ∧ J a 4 = o ∧ J (a + 4) = I (a + 4) ∧ (∀ x, ¬ (a ≤ x ∧ x ≤ a + 12) → J x = I x) ∧ (∀ k, k < s.1 → π k < s.1) ∧ (∀ i j, i < j → j < s.1 → hgt o s (π i) < hgt o s (π j)) ∧ ∀ m, m < s.1 → ∃ i, i < s.1 ∧ π i = m := by
  have hn := hC.2.2.2.2.1
  have ha1 := ha.1
  have h91 : ∀ m, m < s.1 → hgt o s m < 91 := fun m hm => rk_91 (pl_91 (hC.2.2.2.2.2.2.1 m hm).2.2)
  have key : ∃ r, am_lp (am_ev (am_run am_tb (d + 4)) wX3_handOver_4) 4 am_F ([vR 165, vR a, vI (-1), vI (0 : Nat), vU, vU, vU, vU], [], LH L I R u) = some r ∧ ∃ (ls : List am_V) (J : Nat → Nat → Int) (π : Nat → Nat) (A : Int), r = (111, ls, [], LH L J R u) ∧ Bac J a s.1 (fun k => pl (s.2.2.2.1 (π k)) (s.2.2.2.2.1 (π k))) (fun k => s.2.2.1 (π k)) ∧ J a 4 = o ∧ J (a + 4) = I (a + 4) ∧ (∀ x, ¬ (a ≤ x ∧ x ≤ a + 12) → J x = I x) ∧ HoI o s s.1 A π := by
    refine lp_inv (fun t y => ∃ (J : Nat → Nat → Int) (π : Nat → Nat) (A : Int) (l4 l5 l6 l7 : am_V), y = ([vR 165, vR a, vI A, vI (t : Nat), l4, l5, l6, l7], [], LH L J R u) ∧ (-1 ≤ A ∧ A ≤ 91) ∧ Bac J a t (fun k => pl (s.2.2.2.1 (π k)) (s.2.2.2.2.1 (π k))) (fun k => s.2.2.1 (π k)) ∧ J a 4 = o ∧ J (a + 4) = I (a + 4) ∧ (∀ x, ¬ (a ≤ x ∧ x ≤ a + 12) → J x = I x) ∧ HoI o s t A π) _ s.1 ⟨I, fun _ => 0, -1, vU, vU, vU, vU, rfl, by omega, ⟨by rw [hc0]; rfl, by omega, fun k hk => absurd hk (Nat.not_lt_zero _)⟩, ho, rfl, fun _ _ => rfl, fun k hk => absurd hk (Nat.not_lt_zero _), fun i j _ hj => absurd hj (Nat.not_lt_zero _), fun m _ h => by omega⟩ (ltF (by omega)) (fun t y ht hy => ?_) (fun y hy => ?_)
    · obtain ⟨J, π, A, l4, l5, l6, l7, e0, hA, hBc, j4, jS, jF, hI⟩ := hy
      subst e0
      have hCJ : CsS J R ρ o s := Cst_o hC (fun x hx => jF x (by omega))
      have hBJ : Tbc J := Tbc_o hB (fun x hx => jF x (by unfold Nt at hx; omega))
      obtain ⟨r, hl, x, y, l7', er, hxy⟩ := lp3_ho1 (d := d + 2) (L := L) (u := u) hF hBJ h0 hCJ (a := a) (A := A) (t := (t : Nat)) hA (l7 := l7)
      subst er
      rcases hxy with ⟨_, _, q⟩ | ⟨m, ex, hm, hAm, ey, q⟩
      · exfalso
        have := pig (f := π) (m := t) (n := s.1) (fun k hk => hI.2.2 k hk (Int.not_lt.mp (q k hk)))
        omega
      · subst ex
        subst ey
        have hAm : A < ((hgt o s m : Nat) : Int) := hAm
        have q : ∀ m', m' < s.1 → A < ((hgt o s m' : Nat) : Int) → hgt o s m ≤ hgt o s m' := q
        have hm9 := h91 m hm
        have rm := hC.1.1 m (by omega)
        obtain ⟨J2, hadd, hB2, j24, j2S, j2F⟩ := s2_add (d := d) (L := L) (u := u) (I := J) hF hBJ ha h0 j4 hBc (by omega) (op_cm hF rm.2) (by omega) (Cst_r hCJ (by omega)) (w := pl (s.2.2.2.1 m) (s.2.2.2.2.1 m)) (by rw [led_c (Cst_e hCJ (by omega))]; exact hK m hm) (hCJ.2.2.2.2.2.1 m (by omega)).1 (hCJ.2.2.2.2.2.1 m (by omega)).2
        have h8 : J 165 8 = (s.1 : Int) := hCJ.2.1
        refine ⟨([vR 165, vR a, vI ((hgt o s m : Nat) : Int), vI (t + 1 : Nat), vI (m : Nat), vI ((hgt o s m : Nat) : Int), vI (s.1 : Nat), l7'], [], LH L J2 R u), ?_, J2, au π t m, ((hgt o s m : Nat) : Int), _, _, _, _, rfl, by omega, Bac_c hB2 (fun k hk => ?_) (fun k hk => ?_), j24, j2S.trans jS, fun x hx => (j2F x hx).trans (jF x hx), fun k hk => ?_, fun i j hij hj => ?_, fun m' hm' hle => ?_⟩
        · unfold wX3_handOver_4
          apply t_Q
          · apply t_B
            · refine x_iload_n rfl ?_
              refine x_aload_n rfl ?_
              refine x_giv tg_165 rfl (show _ = (s.1 : Int) from h8) ?_
              exact rfl
            exact t_ic_ge_f (by omega)
          apply t_Q
          · apply t_S
            refine x_iconst ?_
            refine x_istore rfl ?_
            refine x_bipush ?_
            refine x_istore rfl ?_
            refine x_iconst ?_
            refine x_istore rfl ?_
            exact rfl
          apply t_Q
          · apply t_K
            apply t_W
            exact hl
          apply t_Q
          · apply t_S
            refine x_iload rfl ?_
            exact rfl
          apply t_Q
          · apply t_Ks
            · apply t_Q
              · apply t_B
                · exact rfl
                exact t_if_lt_f (by omega)
              apply t_S
              refine x_aload_n rfl ?_
              refine x_aload_n rfl ?_
              refine x_gr tg_165 rfl (fx_165_4 hF) ?_
              refine x_iload rfl ?_
              refine x_aald (by rw [tg_167]; decide) (ln_167 L) (by omega) (rm.1 : R 167 m = some (223 + 2 * ρ m)) ?_
              refine x_V2v ha.2.1 (Nat.le_of_ble_eq_true rfl) (hadd) ?_
              exact rfl
            · decide
          apply t_B
          · refine x_iload rfl ?_
            refine x_istore_n rfl ?_
            refine x_iinc rfl rfl ?_
            exact rfl
          exact t_goeq rfl
        · by_cases e : k = t
          · rw [e, au_s, au_s]
          · rw [au_n _ _ e, au_n _ _ e]
        · by_cases e : k = t
          · rw [e, au_s, au_s]
          · rw [au_n _ _ e, au_n _ _ e]
        · by_cases e : k = t
          · rw [e, au_s]; exact ⟨hm, Int.le_refl _⟩
          · rw [au_n _ _ e]
            have := hI.1 k (by omega)
            exact ⟨this.1, by omega⟩
        · by_cases e : j = t
          · rw [e, au_s, au_n _ _ (by omega)]
            have := (hI.1 i (by omega)).2
            omega
          · rw [au_n _ _ e, au_n _ _ (by omega)]; exact hI.2.1 i j hij (by omega)
        · by_cases e : A < ((hgt o s m' : Nat) : Int)
          · have h1 := q m' hm' e
            exact ⟨t, by omega, by rw [au_s]; exact hinj m m' hm hm' (by omega)⟩
          · obtain ⟨i, hi, ei⟩ := hI.2.2 m' hm' (by omega)
            exact ⟨i, by omega, by rw [au_n _ _ (by omega)]; exact ei⟩
    · obtain ⟨J, π, A, l4, l5, l6, l7, e0, hA, hBc, j4, jS, jF, hI⟩ := hy
      subst e0
      have h8 : J 165 8 = (s.1 : Int) := by rw [jF 165 (by omega)]; exact hC.2.1
      refine ⟨(111, [vR 165, vR a, vI A, vI (s.1 : Nat), l4, l5, l6, l7], [], LH L J R u), ?_, by show ¬ 111 = 4 + 2; decide, _, J, π, A, rfl, hBc, j4, jS, jF, hI⟩
      unfold wX3_handOver_4
      apply t_Qs
      apply t_B
      · refine x_iload_n rfl ?_
        refine x_aload_n rfl ?_
        refine x_giv tg_165 rfl (show _ = (s.1 : Int) from h8) ?_
        exact rfl
      exact t_ic_ge_t (by omega)
  obtain ⟨r, hl, ls, J, π, A, er, h11, h12, h13, h14, h2⟩ := key
  subst er
  refine ⟨J, π, ?_, h11, h12, h13, h14, fun k hk => (h2.1 k hk).1, h2.2.1, fun m hm => surj (fun k hk => (h2.1 k hk).1) (fun i j hi hj he => ?_) hm⟩
  · refine run_of tb_X3_handOver (Nat.le_of_ble_eq_true rfl) ?_
    show ∃ ls', am_ev (am_run am_tb (d + 4)) tX3_handOver ([vR 165, vR a, vU, vU, vU, vU, vU, vU], [], LH L I R u) = _
    apply Exists.intro
    unfold tX3_handOver
    apply t_Q
    · apply t_S
      refine x_iconst ?_
      refine x_istore_n rfl ?_
      refine x_iconst ?_
      refine x_istore_n rfl ?_
      exact rfl
    apply t_Q
    · apply t_K
      apply t_W
      exact hl
    apply t_B
    · exact rfl
    exact rfl
  · rcases Nat.lt_trichotomy i j with z | z | z
    · have := h2.2.1 i j z hj
      rw [he] at this
      omega
    · exact z
    · have := h2.2.1 j i z hi
      rw [he] at this
      omega
