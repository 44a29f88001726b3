/-! Leads. -/
theorem wb_of {o : Int} {u : Nat} : wb o (wn u) (if o = 0 then xw u else dw u) = u := by
  have h := xw_dw u
  unfold wb
  by_cases c : o = 0
  · rw [if_pos c, if_pos c, show wn u - xw u = dw u by omega, pl_w]
  · rw [if_neg c, if_neg c, show wn u - dw u = xw u by omega, pl_w]
theorem led_max {o : Int} {f : Nat → Int} (h : zt f ≠ 496) : ∃ w, w < 496 ∧ led o f = (w : Nat) ∧ f w ≠ 0 ∧ (∀ u, u < 496 → f u ≠ 0 → rk o u ≤ rk o w) := by
  obtain ⟨w, hw, hl, hf⟩ := led_some (o := o) h
  refine ⟨w, hw, hl, hf, fun u hu hfu => ?_⟩
  have hle := zt_le f
  have hn := wn_30 (show 495 - zt f < 496 by omega)
  have hdu := dgr_ge hu hfu
  have hd : dgr f = ((wn (495 - zt f) : Nat) : Int) := by unfold dgr; rw [if_neg h]
  have hne : lfn o f (wn (495 - zt f)) ≠ wn (495 - zt f) + 1 := by
    intro q
    rw [led_eq h, if_pos q] at hl
    omega
  have hlf := lfn_le (o := o) (f := f) (n := wn (495 - zt f))
  have ew : w = wb o (wn (495 - zt f)) (lfn o f (wn (495 - zt f))) := by
    rw [led_eq h, if_neg hne] at hl
    omega
  have rw1 : rk o w = tri (wn (495 - zt f)) + (wn (495 - zt f) - lfn o f (wn (495 - zt f))) := by rw [ew]; exact rk_wb (by omega)
  by_cases c : wn u = wn (495 - zt f)
  · have hx := xw_dw u
    have hk : (if o = 0 then xw u else dw u) ≤ wn u := by split <;> omega
    have eu := wb_of (o := o) (u := u)
    have ru : rk o u = tri (wn u) + (wn u - (if o = 0 then xw u else dw u)) := by
      have := rk_wb (o := o) hk
      rw [eu] at this
      exact this
    have hge : lfn o f (wn (495 - zt f)) ≤ (if o = 0 then xw u else dw u) := by
      refine Nat.not_lt.mp fun q => ?_
      have := lfn_no q
      rw [← c, eu] at this
      exact hfu this
    rw [ru, rw1, ← c]
    rw [← c] at hge
    omega
  · have : wn u < wn w := by
      have : wn w = wn (495 - zt f) := by rw [← rk_wn o w, rw1]; exact wn_u (by omega) (by rw [tri_s]; omega)
      omega
    exact Nat.le_of_lt (rk_d this)
