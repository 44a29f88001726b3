/-! The rank of a word in its order; leads have the greatest. -/
def rk (o : Int) (w : Nat) : Nat := tri (wn w) + (if o = 0 then dw w else xw w)
theorem rk_b (o : Int) (w : Nat) : tri (wn w) ≤ rk o w ∧ rk o w < tri (wn w + 1) := by
  have h := xw_dw w
  unfold rk
  rw [tri_s]
  split <;> omega
theorem rk_wn (o : Int) (w : Nat) : wn (rk o w) = wn w := wn_u (rk_b o w).1 (rk_b o w).2
theorem rk_lt {o : Int} {w : Nat} (h : w < 496) : rk o w < 496 := by
  have a := wn_30 h
  have b := (rk_b o w).2
  have c := tri_m (show wn w + 1 ≤ 31 by omega)
  rw [tri_31] at c
  omega
theorem rk_inj {o : Int} {w v : Nat} (h : rk o w = rk o v) : w = v := by
  have e : wn w = wn v := by rw [← rk_wn o w, ← rk_wn o v, h]
  have a := xw_dw w
  have b := xw_dw v
  unfold rk at h
  rw [e] at h
  rw [← pl_w w, ← pl_w v]
  split at h
  · rw [show dw w = dw v by omega, show xw w = xw v by omega]
  · rw [show dw w = dw v by omega, show xw w = xw v by omega]
theorem rk_d {o : Int} {w v : Nat} (h : wn w < wn v) : rk o w < rk o v := by
  have a := (rk_b o w).2
  have b := (rk_b o v).1
  have c := tri_m (show wn w + 1 ≤ wn v from h)
  omega
theorem rk_wb {o : Int} {n k : Nat} (hk : k ≤ n) : rk o (wb o n k) = tri n + (n - k) := by
  unfold wb rk
  by_cases c : o = 0
  · rw [if_pos c, if_pos c, wn_pl, dw_pl, show k + (n - k) = n by omega]
  · rw [if_neg c, if_neg c, wn_pl, xw_pl, show n - k + k = n by omega]
