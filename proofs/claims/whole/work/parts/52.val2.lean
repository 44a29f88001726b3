/-! Products modulo 10007. -/
theorem em1 (a b : Int) : a % 10007 * b % 10007 = a * b % 10007 := by
  rw [Int.mul_emod, Int.emod_emod_of_dvd _ (Int.dvd_refl _), ← Int.mul_emod]
theorem em2 (a b : Int) : a * (b % 10007) % 10007 = a * b % 10007 := by
  rw [Int.mul_comm, em1, Int.mul_comm]
theorem faF_fal {i : Nat} {c : Int} (hc : 0 ≤ c ∧ c < 10007) (k : Nat) : faF i c k = c * fal i k % 10007 := by
  induction k with
  | zero =>
    show c = c * 1 % 10007
    omega
  | succ k ih =>
    show faF i c k * ((i : Int) - k) % 10007 = c * (fal i k * ((i : Int) - k) % 10007) % 10007
    rw [ih, em1, em2, Int.mul_assoc]
