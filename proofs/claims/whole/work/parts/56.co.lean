/-! What a word makes of a word. -/
theorem smk_ne {t : Nat → Int} {n : Nat} (h : smk t n ≠ 0) : ∃ k, k < n ∧ t k ≠ 0 := by
  induction n with
  | zero => exact absurd rfl h
  | succ n ih =>
    by_cases e : t n = 0
    · have : smk t n ≠ 0 := by
        intro q
        apply h
        show smk t n + t n = 0
        omega
      obtain ⟨k, hk, h2⟩ := ih this
      exact ⟨k, by omega, h2⟩
    · exact ⟨n, by omega, e⟩
theorem smk_one {t : Nat → Int} {m n : Nat} (hm : m < n) (h : ∀ k, k < n → k ≠ m → t k = 0) : smk t n = t m := by
  induction n with
  | zero => omega
  | succ n ih =>
    show smk t n + t n = t m
    by_cases e : m = n
    · subst e
      have : smk t m = 0 := by
        refine Decidable.byContradiction fun q => ?_
        obtain ⟨k, hk, h2⟩ := smk_ne q
        exact h2 (h k (by omega) (by omega))
      omega
    · rw [ih (by omega) (fun k hk hne => h k (by omega) hne), h n (by omega) (by omega), Int.add_zero]
theorem pl_inj {a b c e : Nat} (h : pl a b = pl c e) : a = c ∧ b = e := by
  have h1 := xw_pl a b
  have h2 := dw_pl a b
  rw [h, xw_pl] at h1
  rw [h, dw_pl] at h2
  exact ⟨h1.symm, h2.symm⟩
theorem co_top (p q i j : Nat) : co p q i j (pl (p + i) (q + j)) = 1 := by
  unfold co
  rw [smk_one (m := 0) (by omega) (fun k hk hne => ?_)]
  · show (if pl (p + i) (q + j) = pl (p + i - 0) (q - 0 + j) then ch q 0 * fal i 0 else 0) = 1
    rw [if_pos (by rw [Nat.sub_zero, Nat.sub_zero])]
    cases q <;> rfl
  · show (if pl (p + i) (q + j) = pl (p + i - k) (q - k + j) then ch q k * fal i k else 0) = 0
    rw [if_neg]
    intro e
    have := (pl_inj e).1
    omega
theorem co_ne {p q i j w : Nat} (h : co p q i j w ≠ 0) : ∃ t, t ≤ i ∧ t ≤ q ∧ w = pl (p + i - t) (q - t + j) := by
  obtain ⟨k, hk, h2⟩ := smk_ne h
  refine ⟨k, by omega, by omega, ?_⟩
  refine Decidable.byContradiction fun e => h2 ?_
  exact if_neg e
