/-! A step that takes a lead away. -/
theorem rk_le_wn {o : Int} {u v : Nat} (h : rk o u ≤ rk o v) : wn u ≤ wn v := by
  refine Nat.not_lt.mp fun q => ?_
  have := rk_d (o := o) q
  omega
theorem lt_wds {f : Nat → Int} {k : Nat} (hk : k < 496) (h : f k ≠ 0) : k < wds f := by
  have a := dgr_ge hk h
  have hz : zt f ≠ 496 := by
    intro q
    have : dgr f = -1 := by unfold dgr; rw [if_pos q]
    omega
  have hd : dgr f = ((wn (495 - zt f) : Nat) : Int) := by unfold dgr; rw [if_neg hz]
  unfold wds
  rw [if_neg hz]
  have b := (wn_b k).2
  have c := tri_m (show wn k + 1 ≤ wn (495 - zt f) + 1 by omega)
  omega
section STEP
variable {o : Int} {B : Nat → Int} {l w : Nat}
theorem cor_w {n : Nat} (hB : ∀ u, u < 496 → B u ≠ 0 → rk o u ≤ rk o l) (hx : xw l ≤ xw w) (hd : dw l ≤ dw w) (hn : n ≤ 496) (hl : l < n) : cor (xw w - xw l) (dw w - dw l) B n w = B l := by
  unfold cor
  rw [smk_one (m := l) hl (fun k hk hne => ?_)]
  · show B l * co (xw w - xw l) (dw w - dw l) (xw l) (dw l) w = B l
    have := co_top (xw w - xw l) (dw w - dw l) (xw l) (dw l)
    rw [show xw w - xw l + xw l = xw w by omega, show dw w - dw l + dw l = dw w by omega, pl_w] at this
    rw [this, Int.mul_one]
  · show B k * co (xw w - xw l) (dw w - dw l) (xw k) (dw k) w = 0
    by_cases b : B k = 0
    · rw [b, Int.zero_mul]
    · by_cases c : co (xw w - xw l) (dw w - dw l) (xw k) (dw k) w = 0
      · rw [c, Int.mul_zero]
      · exfalso
        obtain ⟨t, t1, t2, e⟩ := co_ne c
        have e1 : xw w = xw w - xw l + xw k - t := by
          have := congrArg xw e
          rw [xw_pl] at this
          exact this
        have e2 : dw w = dw w - dw l - t + dw k := by
          have := congrArg dw e
          rw [dw_pl] at this
          exact this
        have r := rk_le_wn (hB k (by omega) b)
        have s1 := xw_dw k
        have s2 := xw_dw l
        apply hne
        rw [← pl_w k, ← pl_w l, show xw k = xw l by omega, show dw k = dw l by omega]
theorem cor_u {n u : Nat} (hB : ∀ u, u < 496 → B u ≠ 0 → rk o u ≤ rk o l) (hx : xw l ≤ xw w) (hd : dw l ≤ dw w) (hn : n ≤ 496) (hu : rk o w < rk o u) : cor (xw w - xw l) (dw w - dw l) B n u = 0 := by
  refine Decidable.byContradiction fun q => ?_
  obtain ⟨k, hk, h2⟩ := smk_ne q
  have b : B k ≠ 0 := fun z => h2 (by show B k * _ = 0; rw [z, Int.zero_mul])
  have c : co (xw w - xw l) (dw w - dw l) (xw k) (dw k) u ≠ 0 := fun z => h2 (by show B k * co _ _ _ _ _ = 0; rw [z, Int.mul_zero])
  obtain ⟨t, t1, t2, e⟩ := co_ne c
  have e1 : xw u = xw w - xw l + xw k - t := by rw [e, xw_pl]
  have e2 : dw u = dw w - dw l - t + dw k := by rw [e, dw_pl]
  have r0 := hB k (by omega) b
  have r := rk_le_wn r0
  have r2 := rk_le_wn (Nat.le_of_lt hu)
  have s1 := xw_dw k
  have s2 := xw_dw l
  have s3 := xw_dw u
  have s4 := xw_dw w
  have ht : t = 0 := by omega
  have ek : wn k = wn l := by omega
  have eu : wn u = wn w := by omega
  unfold rk at r0 hu
  rw [ek] at r0
  rw [eu] at hu
  by_cases c0 : o = 0
  · rw [if_pos c0, if_pos c0] at r0 hu
    omega
  · rw [if_neg c0, if_neg c0] at r0 hu
    omega
end STEP
