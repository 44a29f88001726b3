/-! Inverses modulo 10007. -/
def ivk (a b : Nat) : Bool := decide (100 * a + b = 0) || decide (10007 ≤ 100 * a + b) || decide (((100 * a + b : Nat) : Int) * inv ((100 * a + b : Nat) : Int) % 10007 = 1)
set_option maxRecDepth 10000 in
theorem inv_all : ∀ a, a < 101 → ∀ b, b < 100 → ivk a b = true := by decide +kernel
theorem inv_ok {v : Int} (h : 0 < v ∧ v < 10007) : v * inv v % 10007 = 1 := by
  obtain ⟨n, rfl⟩ : ∃ n : Nat, v = n := ⟨v.toNat, by omega⟩
  have k := inv_all (n / 100) (by omega) (n % 100) (by omega)
  unfold ivk at k
  rw [show 100 * (n / 100) + n % 100 = n by omega] at k
  rw [Bool.or_eq_true, Bool.or_eq_true] at k
  rcases k with (k | k) | k
  · have := of_decide_eq_true k; omega
  · have := of_decide_eq_true k; omega
  · exact of_decide_eq_true k
