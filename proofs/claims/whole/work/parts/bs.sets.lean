/-! Sets of operators, bases on both sides. -/
theorem mb_6 (q : Int) (k j : Nat) : mbE q k j < k ∨ mbE q k j = 0 := by
  induction k with
  | zero => exact Or.inr rfl
  | succ k ih =>
    show (if shf q k % 2 = 1 then au (mbE q k) (mbN q k) k else mbE q k) j < k + 1 ∨ (if shf q k % 2 = 1 then au (mbE q k) (mbN q k) k else mbE q k) j = 0
    by_cases c : shf q k % 2 = 1
    · rw [if_pos c]
      by_cases e : j = mbN q k
      · rw [e, au_s]; omega
      · rw [au_n _ _ e]; omega
    · rw [if_neg c]; omega
theorem mb_in {q : Int} {k j : Nat} (h : j < mbN q k) : shf q (mbE q k j) % 2 = 1 := by
  induction k with
  | zero => exact absurd h (Nat.not_lt_zero _)
  | succ k ih =>
    show shf q ((if shf q k % 2 = 1 then au (mbE q k) (mbN q k) k else mbE q k) j) % 2 = 1
    have h : j < (if shf q k % 2 = 1 then mbN q k + 1 else mbN q k) := h
    by_cases c : shf q k % 2 = 1
    · rw [if_pos c] at h ⊢
      by_cases e : j = mbN q k
      · rw [e, au_s]; exact c
      · rw [au_n _ _ e]; exact ih (by omega)
    · rw [if_neg c] at h ⊢; exact ih h
theorem mb_ex {q : Int} {k i : Nat} (h : i < k) (hb : shf q i % 2 = 1) : ∃ j, j < mbN q k ∧ mbE q k j = i := by
  induction k with
  | zero => omega
  | succ k ih =>
    show ∃ j, j < (if shf q k % 2 = 1 then mbN q k + 1 else mbN q k) ∧ (if shf q k % 2 = 1 then au (mbE q k) (mbN q k) k else mbE q k) j = i
    by_cases e : i = k
    · rw [e] at hb ⊢
      rw [if_pos hb, if_pos hb]
      exact ⟨mbN q k, by omega, au_s _ _ _⟩
    · obtain ⟨j, h1, h2⟩ := ih (by omega)
      by_cases c : shf q k % 2 = 1
      · rw [if_pos c, if_pos c]
        exact ⟨j, by omega, by rw [au_n _ _ (by omega)]; exact h2⟩
      · rw [if_neg c, if_neg c]; exact ⟨j, h1, h2⟩
theorem mb_mn {q : Int} {k i j : Nat} (h : i < j) (hj : j < mbN q k) : mbE q k i < mbE q k j := by
  induction k with
  | zero => exact absurd hj (Nat.not_lt_zero _)
  | succ k ih =>
    show (if shf q k % 2 = 1 then au (mbE q k) (mbN q k) k else mbE q k) i < (if shf q k % 2 = 1 then au (mbE q k) (mbN q k) k else mbE q k) j
    have hj : j < (if shf q k % 2 = 1 then mbN q k + 1 else mbN q k) := hj
    by_cases c : shf q k % 2 = 1
    · rw [if_pos c] at hj ⊢
      by_cases e : j = mbN q k
      · rw [e, au_s, au_n _ _ (by omega)]; exact mbE_lt (by omega)
      · rw [au_n _ _ e, au_n _ _ (by omega)]; exact ih (by omega)
    · rw [if_neg c] at hj ⊢; exact ih hj
theorem in_in {I : Nat → Nat → Int} {q : Int} {k j : Nat} (h : j < (inF I q k).1) : ∃ i, i < k ∧ shf q i % 2 = 1 ∧ (inF I q k).2 j = fe I i := by
  induction k with
  | zero => exact absurd h (Nat.not_lt_zero _)
  | succ k ih =>
    by_cases c : shf q k % 2 = 1 ∧ ¬ dgr (fe I k) < 0
    · have e : inF I q (k + 1) = ((inF I q k).1 + 1, au (inF I q k).2 (inF I q k).1 (fe I k)) := if_pos c
      rw [e] at h ⊢
      by_cases ej : j = (inF I q k).1
      · exact ⟨k, by omega, c.1, by show au _ _ _ j = _; rw [ej, au_s]⟩
      · obtain ⟨i, h1, h2, h3⟩ := ih (by have : j < (inF I q k).1 + 1 := h; omega)
        exact ⟨i, by omega, h2, by show au _ _ _ j = _; rw [au_n _ _ ej]; exact h3⟩
    · have e : inF I q (k + 1) = inF I q k := if_neg c
      rw [e] at h ⊢
      obtain ⟨i, h1, h2, h3⟩ := ih h
      exact ⟨i, by omega, h2, h3⟩
theorem in_ex {I : Nat → Nat → Int} {q : Int} {k i : Nat} (h : i < k) (hb : shf q i % 2 = 1) (hd : ¬ dgr (fe I i) < 0) : ∃ j, j < (inF I q k).1 ∧ (inF I q k).2 j = fe I i := by
  induction k with
  | zero => omega
  | succ k ih =>
    by_cases c : shf q k % 2 = 1 ∧ ¬ dgr (fe I k) < 0
    · have e : inF I q (k + 1) = ((inF I q k).1 + 1, au (inF I q k).2 (inF I q k).1 (fe I k)) := if_pos c
      rw [e]
      by_cases ei : i = k
      · exact ⟨(inF I q k).1, Nat.lt_succ_self _, by show au _ _ _ _ = _; rw [au_s, ei]⟩
      · obtain ⟨j, h1, h2⟩ := ih (by omega)
        exact ⟨j, Nat.lt_succ_of_lt h1, by show au _ _ _ j = _; rw [au_n _ _ (by omega)]; exact h2⟩
    · have e : inF I q (k + 1) = inF I q k := if_neg c
      rw [e]
      exact ih (by
        by_cases ei : i = k
        · rw [ei] at hb hd; exact absurd ⟨hb, hd⟩ c
        · omega)
theorem smF_1 {I : Nat → Nat → Int} {q : Int} {n : Nat} : smF I q n = 1 ↔ ∀ k, k < n → shf q k % 2 = 1 → dgr (fe I k) ≤ 3 := by
  induction n with
  | zero => exact ⟨fun _ k hk => absurd hk (Nat.not_lt_zero _), fun _ => rfl⟩
  | succ n ih =>
    show (if smF I q n = 1 ∧ (shf q n % 2 = 0 ∨ dgr (fe I n) ≤ 3) then (1 : Int) else 0) = 1 ↔ _
    constructor
    · intro h
      by_cases c : smF I q n = 1 ∧ (shf q n % 2 = 0 ∨ dgr (fe I n) ≤ 3)
      · intro k hk hb
        by_cases e : k = n
        · rw [e] at hb ⊢; rcases c.2 with z | z <;> omega
        · exact ih.mp c.1 k (by omega) hb
      · rw [if_neg c] at h; exact absurd h (by decide)
    · intro h
      rw [if_pos ⟨ih.mpr (fun k hk => h k (by omega)), by
        have := h n (by omega)
        have : shf q n % 2 = 0 ∨ shf q n % 2 = 1 := by omega
        omega⟩]
theorem Rg_og {g : Nat → Int} {s : Nat} (h : Gok g) (hs : s < 6) : Rg (og g s) := ⟨Gk_og h hs, fun _ hj => og_z hj⟩
theorem dg_w {f : Nat → Int} {n : Nat} (hf : ∀ j, 91 ≤ j → f j = 0) (h : dgr f ≤ (n : Nat)) {w : Nat} (hw : f w ≠ 0) : wn w ≤ n := by
  have h9 : w < 91 := Nat.lt_of_not_le fun z => hw (hf w z)
  have := dgr_ge (f := f) (w := w) (by omega) hw
  omega
theorem RB_A {o : Int} {m n : Nat} {A A' G : Nat → Nat → Int} (h : RB o m A n G) (e : ∀ k, k < m → A k = A' k) : RB o m A' n G := by
  obtain ⟨h1, h2, h3, h4, h5⟩ := h
  refine ⟨h1, h2, h3, fun k hk => Idl_sub (fun g l ⟨t, ht, eg⟩ => ?_) (h4 k hk), fun k hk => by rw [← e k hk]; exact h5 k hk⟩
  rw [eg, e t ht]
  exact ⟨1 + rk o (pl (0 + xw 0) (0 + dw 0)), Vr_g (p := 0) (q := 0) (l := 0) ⟨t, ht, rfl⟩ (by omega)⟩
theorem fbl_cg {ld ld' : Nat → Nat} {b w : Nat} (h : ∀ k, k < b → ld k = ld' k) : fbl ld b w = fbl ld' b w := fnd_cg (fun k hk => by rw [h k hk])
theorem rdC_cg {o : Int} {ld ld' : Nat → Nat} {b : Nat} {B B' : Nat → Nat → Int} {f : Nat → Int} (h : ∀ k, k < b → ld k = ld' k ∧ B k = B' k) : rdC o ld b B f = rdC o ld' b B' f := by
  have key : ∀ t, rdI o ld b B f t = rdI o ld' b B' f t := fun t => by
    induction t with
    | zero => rfl
    | succ t ih =>
      show rdS ld b B (rdI o ld b B f t) (unr o (90 - t)) = rdS ld' b B' (rdI o ld' b B' f t) (unr o (90 - t))
      rw [ih]
      generalize rdI o ld' b B' f t = F
      generalize unr o (90 - t) = w
      unfold rdS
      split
      · rfl
      · unfold cnS
        rw [fbl_cg (fun k hk => (h k hk).1)]
        by_cases c : fbl ld' b w < b
        · rw [if_pos c, if_pos c, (h _ c).1, (h _ c).2]
        · rw [if_neg c, if_neg c]
  funext v
  show (if v < 91 then rdI o ld b B f 91 v else 0) = (if v < 91 then rdI o ld' b B' f 91 v else 0)
  rw [key 91]
theorem stF_cg {ld ld' : Nat → Nat} {b m : Nat} (h : ∀ k, k < b → ld k = ld' k) (k : Nat) : stF ld b m k = stF ld' b m k := by
  induction k with
  | zero => rfl
  | succ k ih =>
    show (if fbl ld b (pl (m - k) k) = b then stF ld b m k + 1 else stF ld b m k) = (if fbl ld' b (pl (m - k) k) = b then stF ld' b m k + 1 else stF ld' b m k)
    rw [ih, fbl_cg h]
/-- the reference's start -/
theorem Jr_st {o : Int} {G : Nat → Nat → Int} (n : Nat) (h : ∀ k, k < n + 1 → wn (lw o (G k)) ≤ 3) : ∃ X Y, Jnv (Jr o (n + 1) G) X Y ∧ X + Y ≤ 3 := by
  have hx : ∀ w, xw w + dw w = wn w := fun w => by have := wn_pl (xw w) (dw w); rw [pl_w] at this; omega
  induction n with
  | zero =>
    have h0 := h 0 (by omega)
    have := hx (lw o (G 0))
    refine ⟨xw (lw o (G 0)), dw (lw o (G 0)), Jnv_c (Jnv_1 _ _) (fun p q => ⟨fun z => ⟨0, by omega, z⟩, fun ⟨k, hk, z⟩ => by rw [show k = 0 by omega] at z; exact z⟩), by omega⟩
  | succ n ih =>
    obtain ⟨X, Y, hJ, hXY⟩ := ih (fun k hk => h k (by omega))
    have h1 := h (n + 1) (by omega)
    have := hx (lw o (G (n + 1)))
    refine ⟨_, _, Jnv_c (Jnv_add hJ (a := xw (lw o (G (n + 1)))) (b := dw (lw o (G (n + 1)))) (by omega)) (fun p q => ⟨fun z => ?_, fun ⟨k, hk, z⟩ => ?_⟩), by omega⟩
    · rcases z with ⟨k, hk, z⟩ | z
      · exact ⟨k, by omega, z⟩
      · exact ⟨n + 1, by omega, z⟩
    · by_cases e : k = n + 1
      · rw [e] at z; exact Or.inr z
      · exact Or.inl ⟨k, by omega, z⟩
theorem Rf_st {o : Int} {m n : Nat} {A G : Nat → Nat → Int} (hN : Rn o n G) (h3 : ∀ k, k < n → ∀ w, G k w ≠ 0 → wn w ≤ 3) (h1 : ∀ k, k < m → (∀ v, A k v = 0) ∨ ∃ j, j < n ∧ G j = A k) (h2 : ∀ j, j < n → ∃ k, k < m ∧ G j = A k) : Rf o m A n G := by
  refine ⟨hN, ?_, fun k hk => ?_, fun k hk => ?_⟩
  · by_cases c : n = 0
    · exact Or.inl c
    · obtain ⟨p, rfl⟩ : ∃ p, n = p + 1 := ⟨n - 1, by omega⟩
      obtain ⟨X, Y, hJ, hXY⟩ := Jr_st (o := o) (G := G) p (fun k hk => h3 k hk _ (lw_ok (hN k hk).2).2.2.1)
      exact Or.inr ⟨X, Y, hJ, fun k hk w hne => by have := h3 k hk w hne; omega⟩
  · rcases h1 k hk with z | ⟨j, hj, e⟩
    · exact (Idl_L o _).1 (fun _ => 0) _ (fun w => by rw [z w]) (Idl_L o _).2.1
    · rw [← e]
      exact ⟨_, Vr_1 (l := lw o (G j)) ⟨j, hj, rfl, (lw_ok (hN j hj).2).2.1⟩⟩
  · obtain ⟨t, ht, e⟩ := h2 k hk
    rw [e]
    exact ⟨1 + rk o (pl (0 + xw 0) (0 + dw 0)), Vr_g (p := 0) (q := 0) (l := 0) ⟨t, ht, rfl⟩ (by omega)⟩
section
variable {N L : Nat} {I : Nat → Nat → Int} {R : Nat → Nat → Option Nat} {v0 : Int64} {σ : Sg}
theorem RI_Fw {J : Nat → Nat → Int} (h : RI σ I) (hF : Fw I J) (hL : Lyd J) : RI σ J := by
  obtain ⟨⟨h1, h2⟩, h3, h4, h5, h6, ⟨h7, h8⟩, _⟩ := h
  have hT := Fw_T hF h2
  obtain ⟨f1, f2, ⟨f3, f4⟩, f8⟩ := hF
  refine ⟨⟨f8, hT⟩, by rw [f1 302 (by decide) (by decide)]; exact h3, by rw [f3, f1 303 (by decide) (by decide)]; exact h4, by rw [f1 304 (by decide) (by decide)]; exact h5, by rw [f4, f1 305 (by decide) (by decide)]; exact h6, ⟨Bol_e h7 (congrArg (fun x => x.2.2) f2.2.2), by rw [show J 311 = I 311 from congrArg (fun x => x.2.1) f2.2.2]; exact h8⟩, hL⟩
theorem og_mb (hC : CI σ I R) (q : Int) : (fun j => opc I (mbE q 6 j)) = fun j => og σ.1 (mbE q 6 j) := by
  funext j
  exact CI_op hC (by have := mb_6 q 6 j; omega)
theorem fe_mb (hR : RI σ I) (q : Int) : (fun j => fe I (mbE q 6 j)) = fun j => og σ.1 (mbE q 6 j) := by
  funext j
  exact RI_fe hR (by have := mb_6 q 6 j; omega)
theorem y_rest (hs : Sok N σ) (hC : CI σ I R) (hR : RI σ I) {s x : Nat} {q : Int} (h1 : s < 6) (h2 : x < 6) (hq : 0 < q ∧ q < 64) : Ag N L 107 188 [vI (s : Nat), vI (x : Nat), vI q] I R v0 := by
  obtain ⟨t, hH, hp⟩ := hC.2.2.2.1
  have hS := CI_Sn hC hs.1
  have h6 : ∀ j, mbE q 6 j < 6 := fun j => by have := mb_6 q 6 j; omega
  by_cases hz : ∃ j, j < mbN q 6 ∧ dgr (og σ.1 (mbE q 6 j)) < 0
  · obtain ⟨j0, hj0, hj1⟩ := hz
    obtain ⟨z, z1, z2, z3⟩ := fst_z (P := fun j => j < mbN q 6 ∧ dgr (og σ.1 (mbE q 6 j)) < 0) j0 ⟨hj0, hj1⟩
    refine ag_ref hs hC hR (i := 1) (x := -20003) (by decide) (by decide) rfl hC hR (s11_rest_no (d := 57) hC.1 hC.2.1 hS hq h1 h2 (z := mbE q 6 z) (h6 z) (mb_in z2.1) (by rw [CI_op hC (h6 z)]; exact z2.2) (fun k hk hb hd => ?_)) (fun Q hQ => ?_)
    · obtain ⟨j, hj, ej⟩ := mb_ex (k := 6) (by have := h6 z; omega) hb
      have : j < z := Nat.lt_of_not_le fun q' => by
        by_cases e : j = z
        · rw [e] at ej; omega
        · have := mb_mn (q := q) (show z < j by omega) hj; omega
      rw [CI_op hC (by have := h6 z; omega)] at hd
      exact z3 j this ⟨hj, by rw [ej]; exact hd⟩
    · have hN := RI_N hQ hs.1
      obtain ⟨a1, a2, a3, _⟩ := rt_ok (q := q) hQ.1.1 hN (Nat.le_refl 6)
      refine ⟨rtI Q q 6, s_rest_no (d := 53) hC.1 hQ.1.1 hQ.1.2 hN hQ.2.2.1.1 hs.2.1 h1 h2 (by omega) z2.1 (fun j hj hd => ?_) (by rw [RI_fe hQ (h6 z)]; exact z2.2), RI_Fw hQ a1 (Or.inl a3), fun a ha => a1.1 a (by omega) (by omega)⟩
      rw [RI_fe hQ (h6 j)] at hd
      exact z3 j hj ⟨by omega, hd⟩
  · have hnz : ∀ j, j < mbN q 6 → ¬ dgr (og σ.1 (mbE q 6 j)) < 0 := fun j hj hd => hz ⟨j, hj, hd⟩
    obtain ⟨J, S, r1, hW, hSR⟩ := s11_rest_ok (d := 54) (L := L) (u := v0) hC.1 hC.2.1 hS hq hH h1 h2 (fun k hk hb hd => by
      obtain ⟨j, hj, ej⟩ := mb_ex (k := 6) hk hb
      rw [CI_op hC hk, ← ej] at hd
      exact hnz j hj hd)
    have eld : (fun j => lw (I 4 2) (opc I (mbE q 6 j))) = fun j => lw (σ.1 608) (og σ.1 (mbE q 6 j)) := by
      funext j
      rw [CI_o hC, CI_op hC (h6 j)]
    rw [eld, og_mb hC q, CI_op hC h2, CI_o hC] at r1 hW
    have hDv : Dv (σ.1 608) (fun j => lw (σ.1 608) (og σ.1 (mbE q 6 j))) (mbN q 6) (fun j => og σ.1 (mbE q 6 j)) := Gd_Dv (fun j hj => ⟨Gk_og hs.1 (h6 j), fun z => hnz j hj (dgr_neg.mpr z)⟩)
    have heq := rest_eq hDv (f := og σ.1 x) (fun k _ => Gk_og hs.1 h2 k) (fun v h1 _ => og_z h1)
    refine ag_op hs (cnt_in _) hC hR h1 (fun k hk => rdC_b (fun v _ => Gk_og hs.1 h2 v) k) hH hp (FixR_m hC.1 (fun a h _ _ => hSR a h)) hSR r1 hW (f' := rsF (σ.1 608) (fun j => lw (σ.1 608) (og σ.1 (mbE q 6 j))) (mbN q 6) (fun j => og σ.1 (mbE q 6 j)) (og σ.1 x)) (fun k hk => (heq k (by omega)).symm) (fun Q hQ => ?_)
    have hN := RI_N hQ hs.1
    obtain ⟨K, r2, hNw, hb⟩ := s_rest_ok (d := 53) (L := L) (R := S) (u := v0) (FixR_m hC.1 (fun a h _ _ => hSR a h)) hQ.1.1 hQ.1.2 hN hQ.2.2.1.1 hs.2.1 h1 h2 (q := q) (by omega) (hQ.2.1 608 (by decide)) (fun j hj => by rw [RI_fe hQ (h6 j)]; exact hnz j hj)
    have eld2 : (fun j => lw (σ.1 608) (fe Q (mbE q 6 j))) = fun j => lw (σ.1 608) (og σ.1 (mbE q 6 j)) := by
      funext j
      rw [RI_fe hQ (h6 j)]
    rw [eld2, fe_mb hQ q, RI_fe hQ h2] at r2 hNw
    rw [← cnt_c heq] at r2
    exact ⟨K, v0, r2, hNw, Bol_e hQ.2.2.2.2.2.1.1 hb⟩
end
