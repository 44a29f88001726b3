/-! The class: kernel, its loops. Written by wip/whole/gen_93.py. -/
/-- the matrix, brought so far -/
def KIn (I0 J : Nat → Nat → Int) (R0 R' : Nat → Nat → Option Nat) (ρ : Nat → Nat) (q r col : Nat) (A : Nat → Nat → Int) (c : Nat → Nat) : Prop :=
  FixR R' ∧ (∀ x, x ≠ 236 → R' x = R0 x) ∧ Prm R' ρ ∧ r ≤ q ∧ (∀ k m, k < q → m < 31 → 0 ≤ J (ρ k) m ∧ J (ρ k) m < 10007) ∧ (∀ a, ¬ (237 ≤ a ∧ a ≤ 252) → J a = I0 a) ∧ (∀ j, j < 28 → (PvC (fun k => J (ρ k)) q j ↔ PvC A q j)) ∧ (∀ k, k < r → c k < col ∧ J (ρ k) (c k) ≠ 0 ∧ ∀ j, j < c k → J (ρ k) j = 0) ∧ (∀ k k', k < k' → k' < r → c k < c k') ∧ (∀ k j, r ≤ k → k < q → j < col → J (ρ k) j = 0)
section KI
variable {I0 J : Nat → Nat → Int} {R0 R' : Nat → Nat → Option Nat} {ρ : Nat → Nat} {q r col : Nat} {A : Nat → Nat → Int} {c : Nat → Nat}
theorem KIn_skip (h : KIn I0 J R0 R' ρ q r col A c) (hz : ∀ k, r ≤ k → k < q → J (ρ k) col = 0) : KIn I0 J R0 R' ρ q r (col + 1) A c := by
  obtain ⟨h1, h2, h3, h4, h5, h6, h7, h8, h9, h10⟩ := h
  refine ⟨h1, h2, h3, h4, h5, h6, h7, fun k hk => ?_, h9, fun k j hk hq hj => ?_⟩
  · have := h8 k hk
    exact ⟨by omega, this.2⟩
  · by_cases e : j = col
    · rw [e]; exact hz k hk hq
    · exact h10 k j hk hq (by omega)
theorem cnP_lt {r q : Nat} (h : r ≤ q) : cnP (fun k => k < r) q = r := by
  induction q with
  | zero => show 0 = r; omega
  | succ q ih =>
    show cnP (fun k => k < r) q + @ite _ (q < r) (Classical.propDecidable _) 1 0 = r
    by_cases e : q < r
    · rw [if_pos e, show r = q + 1 by omega]
      have : cnP (fun k => k < q + 1) q = cnP (fun k => k < q) q := cnP_c (fun k hk => by omega)
      rw [this]
      have key : ∀ m, cnP (fun k => k < m) m = m := fun m => by
        have : ∀ n, n ≤ m → cnP (fun k => k < m) n = n := fun n => by
          induction n with
          | zero => intro _; rfl
          | succ n ih2 =>
            intro hn
            show cnP (fun k => k < m) n + @ite _ (n < m) (Classical.propDecidable _) 1 0 = n + 1
            rw [ih2 (by omega), if_pos (by omega)]
        exact this m (Nat.le_refl _)
      rw [key]
    · rw [if_neg e, ih (by omega), Nat.add_zero]
theorem KIn_end (h : KIn I0 J R0 R' ρ q r col A c) (hc : col ≤ 28) (he : col = 28 ∨ r = q) : rnk A q = r := by
  obtain ⟨h1, h2, h3, h4, h5, h6, h7, h8, h9, h10⟩ := h
  have e1 : rnk A q = rnk (fun k => J (ρ k)) q := cnP_c (fun j hj => (h7 j hj).symm)
  rw [e1, rnk_ld (l := fun k => if k < r then c k else 28) (fun k j hk hj hj2 => ?_) (fun k hk hl => ?_) (fun k k' hk hk' hl hl2 => ?_)]
  · rw [cnP_c (q := fun k => k < r) (fun k hk => ?_)]
    · exact cnP_lt h4
    · by_cases e : k < r
      · have := (h8 k e).1
        show (if k < r then c k else 28) < 28 ↔ k < r
        rw [if_pos e]; omega
      · show (if k < r then c k else 28) < 28 ↔ k < r
        rw [if_neg e]; omega
  · by_cases e : k < r
    · have hj' : j < c k := by
        have : j < (if k < r then c k else 28) := hj
        rw [if_pos e] at this; exact this
      show J (ρ k) j % 10007 = 0
      rw [(h8 k e).2.2 j hj']; rfl
    · show J (ρ k) j % 10007 = 0
      rw [h10 k j (by omega) hk (by omega)]; rfl
  · have hl' : (if k < r then c k else 28) < 28 := hl
    by_cases e : k < r
    · have a := h8 k e
      have b := h5 k (c k) hk (by omega)
      show J (ρ k) (if k < r then c k else 28) % 10007 ≠ 0
      rw [if_pos e]
      have := a.2.1
      omega
    · rw [if_neg e] at hl'; omega
  · have hl' : (if k < r then c k else 28) = (if k' < r then c k' else 28) := hl
    have hl2' : (if k < r then c k else 28) < 28 := hl2
    by_cases e : k < r
    · by_cases e2 : k' < r
      · rw [if_pos e, if_pos e2] at hl'
        rcases Nat.lt_trichotomy k k' with z | z | z
        · have := h9 k k' z e2; omega
        · exact z
        · have := h9 k' k z e; omega
      · rw [if_pos e, if_neg e2] at hl'
        rw [if_pos e] at hl2'
        omega
    · rw [if_neg e] at hl2'; omega
theorem KIn_step {i : Nat} {J2 : Nat → Nat → Int} {R2 : Nat → Nat → Option Nat} (h : KIn I0 J R0 R' ρ q r col A c) (hq : q ≤ 16) (hi : r ≤ i) (hiq : i < q) (hc : col < 28) (hn : J (ρ i) col ≠ 0) (hR : ∀ x, x ≠ 236 → R2 x = R' x) (hR2 : R2 236 = au (au (R' 236) i (some (ρ r))) r (some (ρ i)))
    (hJ : ∀ o m, o < 16 → J2 (ρ (swp i r o)) m = if (r < o ∧ o < q) ∧ col ≤ m ∧ m < 28 then (J (ρ (swp i r o)) m + (10007 - J (ρ (swp i r o)) col) * inv (J (ρ (swp i r r)) col) % 10007 * J (ρ (swp i r r)) m) % 10007 else J (ρ (swp i r o)) m) (hJ2 : ∀ a, ¬ (237 ≤ a ∧ a ≤ 252) → J2 a = J a) : KIn I0 J2 R0 R2 (fun k => ρ (swp i r k)) q (r + 1) (col + 1) A (au c r col) := by
  obtain ⟨h1, h2, h3, h4, h5, h6, h7, h8, h9, h10⟩ := h
  have hsr : swp i r r = i := by
    unfold swp
    by_cases e : r = i
    · rw [if_pos e]; exact e
    · rw [if_neg e, if_pos rfl]
  have hsl : ∀ k, k < r → swp i r k = k := fun k hk => by
    unfold swp
    rw [if_neg (by omega), if_neg (by omega)]
  have hsg : ∀ k, r ≤ k → k < q → r ≤ swp i r k ∧ swp i r k < q := fun k hk hkq => by
    unfold swp
    split
    · omega
    · split <;> omega
  have hpv := h5 i col hiq (by omega)
  have hiv := inv_ok (v := J (ρ i) col) (by omega)
  have hzero : ∀ k j, r ≤ k → k < q → j < col → J (ρ (swp i r k)) j = 0 := fun k j hk hkq hj => h10 _ j (hsg k hk hkq).1 (hsg k hk hkq).2 hj
  refine ⟨FixR_m h1 (fun a _ _ ha => hR a ha), fun x hx => (hR x hx).trans (h2 x hx), Prm_sw h3 (by omega) (by omega) hR2, by omega, fun k m hk hm => ?_, fun a ha => (hJ2 a ha).trans (h6 a ha), fun j hj => ?_, fun k hk => ?_, fun k k' hk hk' => ?_, fun k j hk hkq hj => ?_⟩
  · show 0 ≤ J2 (ρ (swp i r k)) m ∧ J2 (ρ (swp i r k)) m < 10007
    rw [hJ k m (by omega)]
    split
    · omega
    · exact h5 _ m (swp_lt hiq (by omega) hk) hm
  · refine Iff.trans ?_ ((PvC_sw2 (A := fun k => J (ρ k)) hiq (show r < q by omega)).trans (h7 j hj))
    refine PvC_op2 (p := r) (f := fun k => if r < k then (10007 - J (ρ (swp i r k)) col) * inv (J (ρ (swp i r r)) col) % 10007 else 0) (by omega) (if_neg (by omega)) (fun k m hk hm => ?_)
    show J2 (ρ (swp i r k)) m % 10007 = (J (ρ (swp i r k)) m + (if r < k then (10007 - J (ρ (swp i r k)) col) * inv (J (ρ (swp i r r)) col) % 10007 else 0) * J (ρ (swp i r r)) m) % 10007
    rw [hJ k m (by omega)]
    by_cases e : r < k
    · rw [if_pos e]
      by_cases e2 : col ≤ m
      · rw [if_pos ⟨⟨e, hk⟩, e2, by omega⟩, Int.emod_emod]
      · rw [if_neg (by omega), hzero r m (Nat.le_refl _) (by omega) (by omega), Int.mul_zero, Int.add_zero]
    · rw [if_neg e, if_neg (by omega), Int.zero_mul, Int.add_zero]
  · by_cases e : k = r
    · rw [e, au_s]
      show col < col + 1 ∧ J2 (ρ (swp i r r)) col ≠ 0 ∧ ∀ j, j < col → J2 (ρ (swp i r r)) j = 0
      refine ⟨by omega, ?_, fun j hj => ?_⟩
      · rw [hJ r col (by omega), if_neg (by omega), hsr]; exact hn
      · rw [hJ r j (by omega), if_neg (by omega)]; exact hzero r j (Nat.le_refl _) (by omega) hj
    · have a := h8 k (by omega)
      rw [au_n _ _ e]
      show c k < col + 1 ∧ J2 (ρ (swp i r k)) (c k) ≠ 0 ∧ ∀ j, j < c k → J2 (ρ (swp i r k)) j = 0
      refine ⟨by omega, ?_, fun j hj => ?_⟩
      · rw [hJ k _ (by omega), if_neg (by omega), hsl k (by omega)]; exact a.2.1
      · rw [hJ k j (by omega), if_neg (by omega), hsl k (by omega)]; exact a.2.2 j hj
  · by_cases e : k' = r
    · rw [e, au_s, au_n _ _ (by omega)]; exact (h8 k (by omega)).1
    · rw [au_n _ _ e, au_n _ _ (by omega)]; exact h9 k k' hk (by omega)
  · show J2 (ρ (swp i r k)) j = 0
    rw [hJ k j (by omega)]
    by_cases e : j = col
    · rw [e, if_pos (by omega), hsr]
      have hx := h5 (swp i r k) col (swp_lt hiq (by omega) hkq) (by omega)
      have e3 : (10007 - J (ρ (swp i r k)) col) * inv (J (ρ i) col) % 10007 * J (ρ i) col % 10007 = (10007 - J (ρ (swp i r k)) col) % 10007 := by
        rw [em1, Int.mul_assoc, Int.mul_comm (inv _), ← em2, hiv, Int.mul_one]
      omega
    · rw [if_neg (by omega)]; exact hzero k j (by omega) hkq (by omega)
end KI
set_option maxRecDepth 10000 in
theorem lp0_kd1 {d L : Nat} {I : Nat → Nat → Int} {R : Nat → Nat → Option Nat} {u : Int64} {a e : Nat} (hF : FixR R) (hB : Tbc I) (ha : Opx R a e) (he2 : e < 237) (he : Rsc I e) {ρ : Nat → Nat} (hP : Prm R ρ) {n : Nat} (hn : n ≤ 15) : ∃ x, am_lp (am_ev (am_run am_tb (d + 2)) wX0_kernelDimension_12) 12 am_F ([vR 235, vR a, vI n, vI ((n + 1 : Nat) : Int), vI 0, vU, vU, vU], [], LH L I R u) = some x ∧ ∃ J, x = (52, [vR 235, vR a, vI n, vI ((n + 1 : Nat) : Int), vI ((n + 1 : Nat) : Int), vU, vU, vU], [], LH L J R u) ∧ (∀ o m, o < (n + 1) → m < 31 → J (ρ o) m = imS (I e) o m 91 % 10007) ∧ ∀ a, ¬ (237 ≤ a ∧ a ≤ 252) → J a = I a := by
  refine lp_inv (fun k y => ∃ J, y = ([vR 235, vR a, vI n, vI ((n + 1 : Nat) : Int), vI k, vU, vU, vU], [], LH L J R u) ∧ (∀ o m, o < k → m < 31 → J (ρ o) m = imS (I e) o m 91 % 10007) ∧ ∀ a, ¬ (237 ≤ a ∧ a ≤ 252) → J a = I a) _ (n + 1) ⟨I, rfl, fun o m ho => by omega, fun a _ => rfl⟩ (ltF (by omega)) (fun k y hk hy => ?_) (fun y hy => ?_)
  · obtain ⟨J, e0, j1, j2⟩ := hy
    subst e0
    have hρ := (hP.1 k (by omega)).2
    have hfl := sj_fill (d := d + 1) (L := L) (u := u) (R := R) (I := J) (ar_act hρ) (v := 0)
    replace hfl := ev_c hfl (show _ = stv J (ρ k) 31 (fun _ => 0) from rfl)
    have hJe : stv J (ρ k) 31 (fun _ => 0) e = I e := by rw [stv_o (by omega)]; exact j2 e (by omega)
    have hi := s0_addImage (d := d) (L := L) (u := u) (I := stv J (ρ k) 31 (fun _ => 0)) hF (Tbc_v (Tbc_o hB (fun a ha => j2 a (by unfold Nt at ha; omega))) (by unfold Nt; omega)) (ar_act hρ) ha (by unfold Nt; omega) (by omega) (fun j hj => by rw [stv_s hj]; omega) (fun j hj => by rw [hJe]; exact he j hj) (v := 1) (by omega) (n := k) (by omega)
    replace hi := ev_c hi (show _ = stv J (ρ k) 31 (fun p => imS (I e) k p 91 % 10007) from stv_stv.trans (stv_c (fun p hp => by rw [stv_s hp, hJe, Int.one_mul, Int.zero_add])))
    refine ⟨([vR 235, vR a, vI n, vI ((n + 1 : Nat) : Int), vI ((k + 1 : Nat) : Int), vU, vU, vU], [], LH L (stv J (ρ k) 31 (fun p => imS (I e) k p 91 % 10007)) R u), ?_, _, rfl, fun o m ho hm => ?_, fun a ha => ?_⟩
    · unfold wX0_kernelDimension_12
      apply t_Q
      · apply t_B
        · refine x_iload rfl ?_
          refine x_iload_n rfl ?_
          exact rfl
        exact t_ic_ge_f (by omega)
      apply t_B
      · refine x_aload_n rfl ?_
        refine x_gr tg_235 rfl (fx_235_1 hF) ?_
        refine x_iload rfl ?_
        refine x_aald (by rw [tg_236]; decide) (ln_236 L) (by omega) ((hP.1 k (by omega)).1 : R 236 k = some (ρ k)) ?_
        refine x_iconst ?_
        refine x_S2v (by decide) (Nat.le_of_ble_eq_true rfl) (hfl) ?_
        refine x_aload_n rfl ?_
        refine x_aload_n rfl ?_
        refine x_gr tg_235 rfl (fx_235_1 hF) ?_
        refine x_iload rfl ?_
        refine x_aald (by rw [tg_236]; decide) (ln_236 L) (by omega) ((hP.1 k (by omega)).1 : R 236 k = some (ρ k)) ?_
        refine x_aload_n rfl ?_
        refine x_iconst ?_
        refine x_iload rfl ?_
        refine x_V5v tg_235 (Nat.le_of_ble_eq_true rfl) (hi) ?_
        refine x_iinc rfl rfl ?_
        exact rfl
      exact t_goeq rfl
    · by_cases e : o = k
      · rw [e, stv_s hm]
      · rw [stv_o (fun z => e (hP.2 _ _ (by omega) (by omega) z))]; exact j1 o m (by omega) hm
    · rw [stv_o (by omega)]; exact j2 a ha
  · obtain ⟨J, e0, j⟩ := hy
    subst e0
    refine ⟨(52, [vR 235, vR a, vI n, vI ((n + 1 : Nat) : Int), vI ((n + 1 : Nat) : Int), vU, vU, vU], [], LH L J R u), ?_, by show ¬ 52 = 12 + 2; decide, J, rfl, j⟩
    unfold wX0_kernelDimension_12
    apply t_Qs
    apply t_B
    · refine x_iload rfl ?_
      refine x_iload_n rfl ?_
      exact rfl
    exact t_ic_ge_t (by omega)
set_option maxRecDepth 10000 in
theorem lp0_kd2 {d L : Nat} {I : Nat → Nat → Int} {R : Nat → Nat → Option Nat} {u : Int64} {a n q : Nat} (hq : q ≤ 16) {A : Nat → Nat → Int} {I0 : Nat → Nat → Int} {R0 : Nat → Nat → Option Nat} {ρ0 c0 : Nat → Nat} {w6 w7 : am_V} (h : KIn I0 I R0 R ρ0 q 0 0 A c0) : ∃ x, am_lp (am_ev (am_run am_tb (d + 3)) wX0_kernelDimension_56) 56 am_F ([vR 235, vR a, vI n, vI q, vI 0, vI 0, w6, w7], [], LH L I R u) = some x ∧ ∃ J R' ρ c r col l6 l7, x = (137, [vR 235, vR a, vI n, vI q, vI (r : Nat), vI (col : Nat), l6, l7], [], LH L J R' u) ∧ KIn I0 J R0 R' ρ q r col A c ∧ r = rnk A q := by
  refine lp_meas (fun N y => ∃ J R' ρ c r col l6 l7, N = 28 - col ∧ col ≤ 28 ∧ y = ([vR 235, vR a, vI n, vI q, vI (r : Nat), vI (col : Nat), l6, l7], [], LH L J R' u) ∧ KIn I0 J R0 R' ρ q r col A c) _ (fun N y hy => ?_) am_F 28 _ (ltF (by omega)) ⟨I, R, ρ0, c0, 0, 0, w6, w7, rfl, by omega, rfl, h⟩
  obtain ⟨J, R', ρ, c, r, col, l6, l7, eN, hcol, ey, h⟩ := hy
  subst ey
  have hF' := h.1
  have hrq := h.2.2.2.1
  by_cases q0 : col = 28
  · refine ⟨(137, [vR 235, vR a, vI n, vI q, vI (r : Nat), vI (col : Nat), l6, l7], [], LH L J R' u), ?_, Or.inr ⟨by show ¬ 137 = 56 + 2; decide, J, R', ρ, c, r, col, l6, l7, rfl, h, (KIn_end h hcol (Or.inl q0)).symm⟩⟩
    unfold wX0_kernelDimension_56
    apply t_Qs
    apply t_B
    · refine x_iload rfl ?_
      refine x_bipush ?_
      exact rfl
    exact t_ic_ge_t (by omega)
  by_cases q1 : r = q
  · refine ⟨(137, [vR 235, vR a, vI n, vI q, vI (r : Nat), vI (col : Nat), l6, l7], [], LH L J R' u), ?_, Or.inr ⟨by show ¬ 137 = 56 + 2; decide, J, R', ρ, c, r, col, l6, l7, rfl, h, (KIn_end h hcol (Or.inr q1)).symm⟩⟩
    unfold wX0_kernelDimension_56
    apply t_Q
    · apply t_B
      · refine x_iload rfl ?_
        refine x_bipush ?_
        exact rfl
      exact t_ic_ge_f (by omega)
    apply t_Qs
    apply t_B
    · refine x_iload rfl ?_
      refine x_iload_n rfl ?_
      exact rfl
    exact t_ic_ge_t (by omega)
  have hpv := s0_pivot (d := d + 2) (L := L) (u := u) (I := J) hF' h.2.2.1 hq h.2.2.2.2.1 (r := r) (c := col) hrq (by omega)
  by_cases q2 : pvN (fun k => J (ρ k)) r (q - r) col = q - r
  · rw [if_pos q2] at hpv
    have hs : KIn I0 J R0 R' ρ q r (col + 1) A c := KIn_skip h (fun k hk hkq => by
      have := pvN_no (A := fun k => J (ρ k)) (r := r) (n := q - r) (c := col) (k := k - r) (by omega)
      rw [show r + (k - r) = k by omega] at this
      exact this)
    have key : ∃ v6 v7, am_ev (am_run am_tb (d + 3)) wX0_kernelDimension_56 ([vR 235, vR a, vI n, vI q, vI (r : Nat), vI (col : Nat), l6, l7], [], LH L J R' u) = some (56 + 2, [vR 235, vR a, vI n, vI q, vI (r : Nat), vI ((col + 1 : Nat) : Int), v6, v7], [], LH L J R' u) := by
      apply Exists.intro
      apply Exists.intro
      unfold wX0_kernelDimension_56
      apply t_Q
      · apply t_B
        · refine x_iload rfl ?_
          refine x_bipush ?_
          exact rfl
        exact t_ic_ge_f (by omega)
      apply t_Q
      · apply t_B
        · refine x_iload rfl ?_
          refine x_iload_n rfl ?_
          exact rfl
        exact t_ic_ge_f (by omega)
      apply t_Q
      · apply t_S
        refine x_aload_n rfl ?_
        refine x_iload rfl ?_
        refine x_iload_n rfl ?_
        refine x_iload rfl ?_
        refine x_V4i tg_235 (Nat.le_of_ble_eq_true rfl) (hpv) ?_
        refine x_istore rfl ?_
        refine x_iload rfl ?_
        exact rfl
      apply t_Q
      · apply t_K
        apply t_Qs
        apply t_B
        · exact rfl
        exact t_if_lt_t (by omega)
      apply t_B
      · refine x_iinc rfl rfl ?_
        exact rfl
      exact t_goeq rfl
    obtain ⟨v6, v7, key⟩ := key
    exact ⟨_, key, Or.inl ⟨rfl, 28 - (col + 1), by omega, J, R', ρ, c, r, col + 1, v6, v7, rfl, by omega, rfl, hs⟩⟩
  · rw [if_neg q2] at hpv
    have hle := pvN_le (fun k => J (ρ k)) r (q - r) col
    have hyes := pvN_yes (A := fun k => J (ρ k)) (r := r) (n := q - r) (c := col) (by omega)
    generalize pvN (fun k => J (ρ k)) r (q - r) col = z at *
    have hyes2 : J (ρ (r + z)) col ≠ 0 := hyes
    have hF1 : FixR (au R' 236 (au (R' 236) (r + z) (some (ρ r)))) := FixR_m hF' (fun a _ _ ha => au_n _ _ ha)
    have hF2 : FixR (au (au R' 236 (au (R' 236) (r + z) (some (ρ r)))) 236 (au ((au R' 236 (au (R' 236) (r + z) (some (ρ r)))) 236) r (some (ρ (r + z))))) := FixR_m hF1 (fun a _ _ ha => au_n _ _ ha)
    have hR2 : (au (au R' 236 (au (R' 236) (r + z) (some (ρ r)))) 236 (au ((au R' 236 (au (R' 236) (r + z) (some (ρ r)))) 236) r (some (ρ (r + z))))) 236 = au (au (R' 236) (r + z) (some (ρ r))) r (some (ρ (r + z))) := by rw [au_s, au_s]
    have hP2 := Prm_sw h.2.2.1 (i := r + z) (r := r) (by omega) (by omega) hR2
    have hsr : swp (r + z) r r = r + z := by
      unfold swp
      by_cases e : r = r + z
      · rw [if_pos e]; exact e
      · rw [if_neg e, if_pos rfl]
    obtain ⟨J2, hcl, c1, c2⟩ := s0_clear (d := d) (L := L) (u := u) (I := J) (R := (au (au R' 236 (au (R' 236) (r + z) (some (ρ r)))) 236 (au ((au R' 236 (au (R' 236) (r + z) (some (ρ r)))) 236) r (some (ρ (r + z)))))) hF2 hP2 hq (fun k m hk hm => h.2.2.2.2.1 _ m (swp_lt (by omega) (by omega) hk) hm) (p := r) (c := col) (by omega) (by omega) (by show J (ρ (swp (r + z) r r)) col ≠ 0; rw [hsr]; exact hyes2)
    have hs := KIn_step (i := r + z) (R2 := (au (au R' 236 (au (R' 236) (r + z) (some (ρ r)))) 236 (au ((au R' 236 (au (R' 236) (r + z) (some (ρ r)))) 236) r (some (ρ (r + z)))))) (J2 := J2) h hq (by omega) (by omega) (by omega) hyes2 (fun x hx => by rw [au_n _ _ hx, au_n _ _ hx]) hR2 c1 c2
    have key : ∃ v6 v7, am_ev (am_run am_tb (d + 3)) wX0_kernelDimension_56 ([vR 235, vR a, vI n, vI q, vI (r : Nat), vI (col : Nat), l6, l7], [], LH L J R' u) = some (56 + 2, [vR 235, vR a, vI n, vI q, vI ((r + 1 : Nat) : Int), vI ((col + 1 : Nat) : Int), v6, v7], [], LH L J2 (au (au R' 236 (au (R' 236) (r + z) (some (ρ r)))) 236 (au ((au R' 236 (au (R' 236) (r + z) (some (ρ r)))) 236) r (some (ρ (r + z))))) u) := by
      apply Exists.intro
      apply Exists.intro
      unfold wX0_kernelDimension_56
      apply t_Q
      · apply t_B
        · refine x_iload rfl ?_
          refine x_bipush ?_
          exact rfl
        exact t_ic_ge_f (by omega)
      apply t_Q
      · apply t_B
        · refine x_iload rfl ?_
          refine x_iload_n rfl ?_
          exact rfl
        exact t_ic_ge_f (by omega)
      apply t_Q
      · apply t_S
        refine x_aload_n rfl ?_
        refine x_iload rfl ?_
        refine x_iload_n rfl ?_
        refine x_iload rfl ?_
        refine x_V4i tg_235 (Nat.le_of_ble_eq_true rfl) (hpv) ?_
        refine x_istore rfl ?_
        refine x_iload rfl ?_
        exact rfl
      apply t_Q
      · apply t_Ks
        · apply t_Q
          · apply t_B
            · exact rfl
            exact t_if_lt_f (by omega)
          apply t_S
          refine x_aload_n rfl ?_
          refine x_gr tg_235 rfl (fx_235_1 hF') ?_
          refine x_iload rfl ?_
          refine x_aald (by rw [tg_236]; decide) (ln_236 L) (by omega) ((h.2.2.1.1 (r + z) (by omega)).1 : R' 236 (r + z) = some (ρ (r + z))) ?_
          refine x_astore rfl ?_
          refine x_aload_n rfl ?_
          refine x_gr tg_235 rfl (fx_235_1 hF') ?_
          refine x_iload rfl ?_
          refine x_aload_n rfl ?_
          refine x_gr tg_235 rfl (fx_235_1 hF') ?_
          refine x_iload rfl ?_
          refine x_aald (by rw [tg_236]; decide) (ln_236 L) (by omega) ((h.2.2.1.1 r (by omega)).1 : R' 236 r = some (ρ r)) ?_
          refine x_aast tg_236 ⟨by decide, by decide, (ar_act (h.2.2.1.1 r (by omega)).2).1⟩ (ln_236 L) (by omega) ?_
          refine x_aload_n rfl ?_
          refine x_gr tg_235 rfl (fx_235_1 hF1) ?_
          refine x_iload rfl ?_
          refine x_aload rfl ?_
          refine x_aast tg_236 ⟨by decide, by decide, (ar_act (h.2.2.1.1 (r + z) (by omega)).2).1⟩ (ln_236 L) (by omega) ?_
          refine x_aload_n rfl ?_
          refine x_iload rfl ?_
          refine x_iload_n rfl ?_
          refine x_iload rfl ?_
          refine x_V4v tg_235 (Nat.le_of_ble_eq_true rfl) (hcl) ?_
          refine x_iinc rfl rfl ?_
          exact rfl
        · decide
      apply t_B
      · refine x_iinc rfl rfl ?_
        exact rfl
      exact t_goeq rfl
    obtain ⟨v6, v7, key⟩ := key
    exact ⟨_, key, Or.inl ⟨rfl, 28 - (col + 1), by omega, J2, (au (au R' 236 (au (R' 236) (r + z) (some (ρ r)))) 236 (au ((au R' 236 (au (R' 236) (r + z) (some (ρ r)))) 236) r (some (ρ (r + z))))), _, _, r + 1, col + 1, v6, v7, rfl, by omega, rfl, hs⟩⟩
set_option maxRecDepth 10000 in
theorem s0_kernel {d L : Nat} {I : Nat → Nat → Int} {R : Nat → Nat → Option Nat} {u : Int64} {a e : Nat} (hF : FixR R) (hB : Tbc I) (ha : Opx R a e) (he2 : e < 237) (he : Rsc I e) {ρ : Nat → Nat} (hP : Prm R ρ) {n : Nat} (hn : n ≤ 15) : ∃ J R' ρ', am_run am_tb (d + 4) 5 [vR 235, vR a, vI n] (LH L I R u) = some ([vI (((n + 1 : Nat) : Int) - (rnk (fun k m => imS (I e) k m 91 % 10007) (n + 1) : Nat))], LH L J R' u) ∧ FixR R' ∧ (∀ x, x ≠ 236 → R' x = R x) ∧ Prm R' ρ' ∧ ∀ a, ¬ (237 ≤ a ∧ a ≤ 252) → J a = I a := by
  obtain ⟨x, hl1, J, ex, j1, j2⟩ := lp0_kd1 (d := d + 1) (L := L) (u := u) hF hB ha he2 he hP hn
  subst ex
  have hK : KIn I J R R ρ (n + 1) 0 0 (fun k m => imS (I e) k m 91 % 10007) (fun _ => 0) := by
    refine ⟨hF, fun x _ => rfl, hP, by omega, fun k m hk hm => by rw [j1 k m hk hm]; omega, j2, fun j hj => ⟨PvC_c (fun k m hk hm => j1 k m hk (by omega)), PvC_c (fun k m hk hm => (j1 k m hk (by omega)).symm)⟩, fun k hk => by omega, fun k k' _ hk => by omega, fun k j _ _ hj => by omega⟩
  obtain ⟨x, hl2, J2, R', ρ', c, r, col, l6, l7, ex, hK2, hr⟩ := lp0_kd2 (d := d) (L := L) (u := u) (a := a) (n := n) (q := n + 1) (by omega) (w6 := vU) (w7 := vU) hK
  subst ex
  have hrl := hK2.2.2.2.1
  refine ⟨J2, R', ρ', ?_, hK2.1, hK2.2.1, hK2.2.2.1, hK2.2.2.2.2.2.1⟩
  rw [← hr]
  refine run_of tb_X0_kernelDimension (Nat.le_of_ble_eq_true rfl) ?_
  show ∃ ls', am_ev (am_run am_tb (d + 3)) tX0_kernelDimension ([vR 235, vR a, vI n, vU, vU, vU, vU, vU], [], LH L I R u) = _
  have hmn := sj_min (d := d + 2) (h := LH L I R u) (a := (n : Int)) (b := 15) (by omega) (by omega)
  rw [show min (n : Int) 15 = (n : Int) by omega] at hmn
  apply Exists.intro
  unfold tX0_kernelDimension
  apply t_Q
  · apply t_S
    refine x_iload_n rfl ?_
    refine x_bipush ?_
    refine x_S2i (by decide) (Nat.le_of_ble_eq_true rfl) (hmn) ?_
    refine x_iconst ?_
    refine x_iadd ?_
    refine x_istore_n rfl ?_
    refine x_iconst ?_
    refine x_istore rfl ?_
    exact rfl
  apply t_Q
  · apply t_K
    apply t_W
    exact hl1
  apply t_Q
  · apply t_S
    refine x_iconst ?_
    refine x_istore rfl ?_
    refine x_iconst ?_
    refine x_istore rfl ?_
    exact rfl
  apply t_Q
  · apply t_K
    apply t_W
    exact hl2
  apply t_B
  · refine x_iload_n rfl ?_
    refine x_iload rfl ?_
    refine x_isub ?_
    exact rfl
  exact t_ireq (Or.inl rfl) rfl rfl
set_option maxRecDepth 10000 in
theorem s11_kernel_ok {d L : Nat} {I : Nat → Nat → Int} {R : Nat → Nat → Option Nat} {u : Int64} (hF : FixR R) (hB : Tbc I) (hS : Sn I) {ρ : Nat → Nat} (hP : Prm R ρ) {s n : Nat} (hs : s < 6) (hn : n ≤ 15) : ∃ J R' ρ', am_run am_tb (d + 5) 105 [vR 3, vI s, vI n] (LH L I R u) = some ([vI (((n + 1 : Nat) : Int) - (rnk (fun k m => imS (I (10 + 2 * s)) k m 91 % 10007) (n + 1) : Nat))], LH L J R' u) ∧ FixR R' ∧ (∀ x, x ≠ 236 → R' x = R x) ∧ Prm R' ρ' ∧ Fc I J := by
  obtain ⟨J, R', ρ', hk, h1, h2, h3, h4⟩ := s0_kernel (d := d) (L := L) (u := u) hF hB (op_st hF hs) (by omega) (Sn_op hS hs) hP hn
  refine ⟨J, R', ρ', ?_, h1, h2, h3, Fc_n (fun a ha => h4 a (fun z => ha (by unfold Sca; omega)))⟩
  generalize rnk (fun k m => imS (I (10 + 2 * s)) k m 91 % 10007) (n + 1) = rr at *
  refine run_of tb_X11_kernel (Nat.le_of_ble_eq_true rfl) ?_
  show ∃ ls', am_ev (am_run am_tb (d + 4)) tX11_kernel ([vR 3, vI s, vI n], [], LH L I R u) = _
  apply Exists.intro
  unfold tX11_kernel
  apply t_Q
  · apply t_S
    refine x_iload_n rfl ?_
    refine x_S1i (by decide) (Nat.le_of_ble_eq_true rfl) (ret_t (show 0 ≤ (s : Int) ∧ (s : Int) < 6 by omega) (s11_isOperator (d := d + 3) (by omega))) ?_
    exact rfl
  apply t_Q
  · apply t_K
    apply t_Qs
    apply t_Ks
    · apply t_Q
      · apply t_B
        · exact rfl
        exact t_if_eq_f (by omega)
      apply t_Q
      · apply t_B
        · refine x_iload_n rfl ?_
          exact rfl
        exact t_if_lt_f (by omega)
      apply t_B
      · refine x_iload_n rfl ?_
        refine x_bipush ?_
        exact rfl
      exact t_ic_le_t (by omega)
    · decide
  apply t_B
  · refine x_aload_n rfl ?_
    refine x_gr tg_3 rfl (fx_3_6 hF) ?_
    refine x_aload_n rfl ?_
    refine x_gr tg_3 rfl (fx_3_0 hF) ?_
    refine x_gr tg_4 rfl (fx_4_0 hF) ?_
    refine x_iload_n rfl ?_
    refine x_aald (by rw [tg_5]; decide) (ln_5 L) (by omega) (fx_op hF hs : R 5 s = some (9 + 2 * s)) ?_
    refine x_iload_n rfl ?_
    refine x_V3i tg_235 (Nat.le_of_ble_eq_true rfl) (hk) ?_
    exact rfl
  exact t_ireq (Or.inl rfl) rfl rfl
