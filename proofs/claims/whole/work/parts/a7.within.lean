/-! Agreements: within, rest's count. Written by wip/whole/gen_a7.py. -/
theorem nfa_eq {o : Int} {n : Nat} {G : Nat → Nat → Int} (hG : ∀ j, j < n → resa (G j) ∧ ¬ led o (G j) < 0) {f : Nat → Int} (hr : resd f) (hz : ∀ v, 91 ≤ v → v < 496 → f v = 0) : ∀ v, v < 496 → rdC o (fun j => lw o (G j)) n G f v = nfa o n G f v := rest_eq (Gd_Dv hG) hr hz
/-- within: the class's answer is the reference's, over the same basis -/
theorem within_eq {o : Int} {n : Nat} {G : Nat → Nat → Int} (hG : ∀ j, j < n → resa (G j) ∧ ¬ led o (G j) < 0) {f : Nat → Int} (hr : resd f) (hz : ∀ v, 91 ≤ v → v < 496 → f v = 0) : (dgr (rdC o (fun j => lw o (G j)) n G f) < 0) ↔ (led o (nfa o n G f) < 0) := by
  rw [dgr_neg (o := o), led_c (nfa_eq hG hr hz)]
