/-! Degrees of the completion, by its leads. Written by wip/whole/gen_a6.py. -/
/-- J: the words that a lead divides; none of them has less than X letters x or less than Y letters d; what is outside is small -/
def Jnv (J : Nat → Nat → Prop) (X Y : Nat) : Prop := (∀ p q, J p q → X ≤ p ∧ Y ≤ q) ∧ ∀ p q, X ≤ p → Y ≤ q → ¬ J p q → p + q + X + Y ≤ 4
/-- the first lead -/
theorem Jnv_1 (a b : Nat) : Jnv (fun p q => a ≤ p ∧ b ≤ q) a b := ⟨fun _ _ h => h, fun _ _ h1 h2 h => absurd ⟨h1, h2⟩ h⟩
/-- one more lead -/
theorem Jnv_add {J : Nat → Nat → Prop} {X Y a b : Nat} (h : Jnv J X Y) (hd : a + b + X + Y ≤ 6) : Jnv (fun p q => J p q ∨ (a ≤ p ∧ b ≤ q)) (min X a) (min Y b) := by
  refine ⟨fun p q hp => ?_, fun p q h1 h2 h3 => ?_⟩
  · rcases hp with z | z
    · have := h.1 p q z; omega
    · omega
  · have n1 : ¬ J p q := fun z => h3 (Or.inl z)
    have n2 : ¬ (a ≤ p ∧ b ≤ q) := fun z => h3 (Or.inr z)
    by_cases c : X ≤ p ∧ Y ≤ q
    · have := h.2 p q c.1 c.2 n1; omega
    · omega
/-- the least common multiple of neighbours -/
theorem Jnv_lcm {J : Nat → Nat → Prop} {X Y : Nat} (h : Jnv J X Y) {x y x' y' : Nat} (h1 : J x y) (h2 : J x' y') (hx : x' < x) (hy : y < y') (hn : ¬ J (x - 1) (y' - 1)) : x + y' + X + Y ≤ 6 := by
  have a1 := h.1 x y h1
  have a2 := h.1 x' y' h2
  have := h.2 (x - 1) (y' - 1) (by omega) (by omega) hn
  omega
theorem stc_x {x : Nat → Nat} {n : Nat} (h : ∀ k, k + 1 < n → x (k + 1) < x k) (m t : Nat) (ht : m + t < n) : x (m + t) + t ≤ x m := by
  induction t with
  | zero => exact Nat.le_refl _
  | succ t ih =>
    have h1 := ih (by omega)
    have h2 := h (m + t) (by omega)
    rw [show m + (t + 1) = m + t + 1 by omega]
    omega
theorem stc_y {y : Nat → Nat} {n : Nat} (h : ∀ k, k + 1 < n → y k < y (k + 1)) (m : Nat) (hm : m < n) : m ≤ y m := by
  induction m with
  | zero => exact Nat.zero_le _
  | succ m ih =>
    have h1 := ih (by omega)
    have h2 := h m hm
    omega
/-- at most four rows are kept as long as one lead has at most three letters -/
theorem stc_4 {x y : Nat → Nat} {n m : Nat} (hx : ∀ k, k + 1 < n → x (k + 1) < x k) (hy : ∀ k, k + 1 < n → y k < y (k + 1)) (hm : m < n) (h : x m + y m ≤ 3) : n ≤ 4 := by
  have h1 := stc_x hx m (n - 1 - m) (by omega)
  have h2 := stc_y hy m hm
  omega
