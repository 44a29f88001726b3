/-! The class's cross is the cross of the rows. Written by wip/whole/gen_a5.py. -/
theorem cr_W {a b : Nat} {f g : Nat → Int} (ha : a ≤ 12) (hb : b ≤ 12) (hf : Sup (13 - a) f) (hg : Sup (13 - b) g) (w : Nat) : crC a b f g w % 10007 = sbr (Wo 0 a f) (Wo b 0 g) w % 10007 := by
  show (if w < 91 then (cor 0 a f 496 w % 10007 + 10006 * cor b 0 g 496 w) % 10007 else 0) % 10007 = (Wo 0 a f w + -1 * Wo b 0 g w) % 10007
  by_cases c : w < 91
  · have h1 := cor_Wo 0 a (Sup_m hf (show 13 - a ≤ 31 by omega)) w
    have h2 := cor_Wo b 0 (Sup_m hg (show 13 - b ≤ 31 by omega)) w
    rw [tri_31] at h1 h2
    rw [if_pos c]
    generalize cor 0 a f 496 w = x at *
    generalize cor b 0 g 496 w = y at *
    omega
  · have h1 := (Wo_Mu hf f 0 a).1 w (by rw [show 13 - a + a + 0 = 13 by omega, tri_13]; omega)
    have h2 := (Wo_Mu hg g b 0).1 w (by rw [show 13 - b + 0 + b = 13 by omega, tri_13]; omega)
    rw [if_neg c, h1, h2]
    rfl
/-- a row with words of few letters -/
theorem Sup_wn {M : Nat} {f : Nat → Int} (hM : M ≤ 13) (h : ∀ w, w < 91 → f w ≠ 0 → wn w < M) (hz : ∀ j, 91 ≤ j → f j = 0) : Sup M f := fun k hk => by
  by_cases c : k < 91
  · refine Decidable.not_not.mp fun z => ?_
    have h1 := h k c z
    have h2 := (wn_b k).2
    have h3 := tri_m (show wn k + 1 ≤ M by omega)
    omega
  · exact hz k (by omega)
/-- the class's monic row -/
theorem abM_m {o : Int} {f : Nat → Int} (hf : resa f) (h : f (lw o f) ≠ 0) : abM o f (lw o f) % 10007 = 1 ∧ ∀ v, abM o f v % 10007 = inv (f (lw o f)) * f v % 10007 := by
  have b := hf (lw o f)
  have h1 := inv_ok (v := f (lw o f)) (by omega)
  refine ⟨?_, fun v => ?_⟩
  · show (f (lw o f) * inv (f (lw o f)) % 10007) % 10007 = 1
    rw [h1]; rfl
  · show (f v * inv (f (lw o f)) % 10007) % 10007 = _
    rw [Int.emod_emod, Int.mul_comm]
