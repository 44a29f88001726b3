/-! Products: associativity of mul, powers. Written by wip/whole/gen_9x.py. -/
def cut (h : Nat → Int) : Nat → Int := fun k => if k < 496 then h k else 0
theorem cut_s {h : Nat → Int} {k : Nat} (hk : k < 496) : cut h k = h k := if_pos hk
theorem cut_a {h : Nat → Int} (hh : resd h) : resa (cut h) := fun k => by
  unfold cut
  by_cases c : k < 496
  · rw [if_pos c]; exact hh k c
  · rw [if_neg c]; omega
theorem cut_S (h : Nat → Int) : Sup 31 (cut h) := fun k hk => if_neg (by rw [tri_31] at hk; omega)
theorem cut_d {h : Nat → Int} {A : Nat} (hd : dgr h ≤ (A : Nat)) : Sup (A + 1) (cut h) := fun k hk => by
  unfold cut
  by_cases c : k < 496
  · rw [if_pos c]
    refine dgr_z c ?_
    have h1 := (wn_b k).2
    have : ¬ wn k ≤ A := fun z => by
      have := tri_m (show wn k + 1 ≤ A + 1 by omega)
      omega
    omega
  · rw [if_neg c]
theorem Xo_cg {f g : Nat → Int} (h : ∀ w, f w % 10007 = g w % 10007) (w : Nat) : Xo f w % 10007 = Xo g w % 10007 := by
  unfold Xo
  split
  · rfl
  · exact h _
theorem Do_cg {f g : Nat → Int} (h : ∀ w, f w % 10007 = g w % 10007) (w : Nat) : Do f w % 10007 = Do g w % 10007 := by
  unfold Do
  have h1 := h (pl (xw w) (dw w - 1))
  have h2 := md_mul (c := ((xw w : Nat) : Int) + 1) (h (pl (xw w + 1) (dw w)))
  generalize (((xw w : Nat) : Int) + 1) * f (pl (xw w + 1) (dw w)) = x at *
  generalize (((xw w : Nat) : Int) + 1) * g (pl (xw w + 1) (dw w)) = y at *
  split <;> omega
theorem Wo_cg {f g : Nat → Int} (h : ∀ w, f w % 10007 = g w % 10007) (p q : Nat) : ∀ w, Wo p q f w % 10007 = Wo p q g w % 10007 := by
  have hq : ∀ w, itr Do q f w % 10007 = itr Do q g w % 10007 := by
    induction q with
    | zero => exact h
    | succ q ih => exact Do_cg ih
  unfold Wo
  induction p with
  | zero => exact hq
  | succ p ih => exact Xo_cg ih
theorem Mu_cg {a b f g : Nat → Int} {n : Nat} (ha : ∀ k, k < n → a k % 10007 = b k % 10007) (h : ∀ w, f w % 10007 = g w % 10007) (w : Nat) : Mu a n f w % 10007 = Mu b n g w % 10007 := smk_cong fun k hk => by
  show a k * Wo (xw k) (dw k) f w % 10007 = b k * Wo (xw k) (dw k) g w % 10007
  rw [md_mul (Wo_cg h (xw k) (dw k) w), Int.mul_comm, md_mul (ha k hk), Int.mul_comm]
theorem mul_M {g h : Nat → Int} (hg : resd g) (hh : resd h) {w : Nat} (hw : w < 496) : mul g h w = Mu (cut g) (tri 31) (cut h) w % 10007 := by
  rw [mul_c (g' := cut g) (h' := cut h) (fun k hk => (cut_s hk).symm) (fun k hk => (cut_s hk).symm), mul_v (cut_a hg) (cut_a hh) hw]
  exact prd_Mu (cut_S h) w
theorem mul_cut {a b : Nat → Int} (ha : resd a) (hb : resd b) {A B : Nat} (dA : dgr a ≤ (A : Nat)) (dB : dgr b ≤ (B : Nat)) (hAB : A + B ≤ 30) (w : Nat) : cut (mul a b) w % 10007 = Mu (cut a) (tri (A + 1)) (cut b) w % 10007 := by
  by_cases c : w < 496
  · rw [cut_s c, mul_M ha hb c, Int.emod_emod, Mu_ext (cut_d dA) (by omega)]
  · rw [show cut (mul a b) w = 0 from if_neg c, Mu_S (g := cut a) (N := A) (cut_d dB) w (by
      have := tri_m (show B + 1 + A ≤ 31 by omega)
      rw [tri_31] at this
      omega)]
/-- mul is associative as long as no degree is beyond 30 -/
theorem mul_asc {a b c : Nat → Int} (ha : resd a) (hb : resd b) (hc : resd c) {A B C : Nat} (dA : dgr a ≤ (A : Nat)) (dB : dgr b ≤ (B : Nat)) (dC : dgr c ≤ (C : Nat)) (h : A + B + C ≤ 30) {w : Nat} (hw : w < 496) : mul (mul a b) c w = mul a (mul b c) w := by
  rw [mul_M mul_r hc hw, mul_M ha mul_r hw]
  have e1 := Mu_cg (n := tri 31) (f := cut c) (g := cut c) (fun k _ => mul_cut ha hb dA dB (by omega) k) (fun _ => rfl) w
  have e2 := Mu_cg (a := cut a) (b := cut a) (n := tri 31) (fun _ _ => rfl) (fun k => mul_cut hb hc dB dC (by omega) k) w
  rw [e1, e2, Mu_ext (Mu_S (g := cut a) (N := A) (cut_d dB)) (show B + 1 + A ≤ 31 by omega), Mu_assoc (cut_d dB), Mu_ext (cut_d dA) (show A + 1 ≤ 31 by omega)]
/-- the row of one word -/
def dlt (u : Nat) : Nat → Int := fun w => if w = u then 1 else 0
theorem Xo_d (i j : Nat) : Xo (dlt (pl i j)) = dlt (pl (i + 1) j) := ext_pl fun a b => by
  rw [Xo_p]
  unfold dlt
  by_cases e : a = 0
  · rw [if_pos e, if_neg (fun z => by have := pl_iff.mp z; rw [xw_pl] at this; omega)]
  · rw [if_neg e]
    by_cases c : pl a b = pl (i + 1) j
    · have := pl_iff.mp c
      rw [xw_pl, dw_pl] at this
      rw [if_pos c, if_pos (pl_iff.mpr (by rw [xw_pl, dw_pl]; omega))]
    · rw [if_neg c, if_neg (fun z => c (pl_iff.mpr (by have := pl_iff.mp z; rw [xw_pl, dw_pl] at this; rw [xw_pl, dw_pl]; omega)))]
theorem Do_d (j : Nat) : Do (dlt (pl 0 j)) = dlt (pl 0 (j + 1)) := ext_pl fun a b => by
  rw [Do_p]
  unfold dlt
  rw [if_neg (c := pl (a + 1) b = pl 0 j) (fun z => by have := pl_iff.mp z; rw [xw_pl] at this; omega), Int.mul_zero, Int.add_zero]
  by_cases e : b = 0
  · rw [if_pos e, if_neg (fun z => by have := pl_iff.mp z; rw [dw_pl] at this; omega)]
  · rw [if_neg e]
    by_cases c : pl a b = pl 0 (j + 1)
    · have := pl_iff.mp c
      rw [xw_pl, dw_pl] at this
      rw [if_pos c, if_pos (pl_iff.mpr (by rw [xw_pl, dw_pl]; omega))]
    · rw [if_neg c, if_neg (fun z => c (pl_iff.mpr (by have := pl_iff.mp z; rw [xw_pl, dw_pl] at this; rw [xw_pl, dw_pl]; omega)))]
theorem Wo_d (p q : Nat) : Wo p q (dlt (pl 0 0)) = dlt (pl p q) := by
  have hq : itr Do q (dlt (pl 0 0)) = dlt (pl 0 q) := by
    induction q with
    | zero => rfl
    | succ q ih => show Do (itr Do q (dlt (pl 0 0))) = _; rw [ih, Do_d]
  unfold Wo
  rw [hq]
  induction p with
  | zero => rfl
  | succ p ih => show Xo (itr Xo p (dlt (pl 0 q))) = _; rw [ih, Xo_d]
theorem one_dl : cut one = dlt (pl 0 0) := by
  funext w
  unfold cut one dlt
  rw [au_i, show pl 0 0 = 0 from rfl]
  by_cases e : w = 0
  · rw [if_pos e, if_pos (by omega)]
  · rw [if_neg e]; split <;> rfl
theorem mul_1r {g : Nat → Int} (hg : resd g) {w : Nat} (hw : w < 496) : mul g one w = g w := by
  rw [mul_M hg one_b hw, one_dl]
  have b := hg w hw
  have e : Mu (cut g) (tri 31) (dlt (pl 0 0)) w = g w := by
    unfold Mu
    rw [smk_one (m := w) (by rw [tri_31]; exact hw) (fun k _ hne => by rw [Wo_d, pl_w]; show cut g k * (if w = k then 1 else 0) = 0; rw [if_neg (fun z => hne z.symm), Int.mul_zero]), Wo_d, pl_w, cut_s hw]
    show g w * (if w = w then 1 else 0) = g w
    rw [if_pos rfl, Int.mul_one]
  rw [e]
  omega
theorem mul_1l {g : Nat → Int} (hg : resd g) {w : Nat} (hw : w < 496) : mul one g w = g w := by
  rw [mul_M one_b hg hw, one_dl]
  have b := hg w hw
  have e : Mu (dlt (pl 0 0)) (tri 31) (cut g) w = g w := by
    unfold Mu
    rw [smk_one (m := 0) (by rw [tri_31]; decide) (fun k _ hne => by show (if k = pl 0 0 then 1 else 0) * _ = 0; rw [if_neg (show ¬ k = pl 0 0 from hne), Int.zero_mul])]
    show (1 : Int) * Wo (xw 0) (dw 0) (cut g) w = g w
    rw [Int.one_mul]
    show cut g w = g w
    exact cut_s hw
  rw [e]
  omega
theorem powR_dA {g : Nat → Int} {A : Nat} (dA : dgr g ≤ (A : Nat)) (k : Nat) : dgr (powR g k) ≤ ((A * k : Nat) : Int) := by
  induction k with
  | zero => exact dgr_le (by omega) (fun w _ h => by
      show au (fun _ => (0 : Int)) 0 1 w = 0
      rw [au_i]
      refine if_neg fun z => ?_
      rw [z] at h
      have : wn 0 = 0 := rfl
      omega)
  | succ k ih =>
    have := mul_d (g := powR g k) (h := g)
    show dgr (mul (powR g k) g) ≤ _
    rw [Nat.mul_succ]
    omega
/-- power: the base on the left or on the right -/
theorem pow_cm {g : Nat → Int} (hg : resd g) {A : Nat} (dA : dgr g ≤ (A : Nat)) (k : Nat) (h : A * k + A + A ≤ 30) : ∀ w, w < 496 → mul g (powR g k) w = powR g (k + 1) w := by
  induction k with
  | zero =>
    intro w hw
    show mul g one w = mul one g w
    rw [mul_1r hg hw, mul_1l hg hw]
  | succ k ih =>
    intro w hw
    have hk : A * (k + 1) = A * k + A := Nat.mul_succ _ _
    have ih := ih (by omega)
    show mul g (mul (powR g k) g) w = mul (powR g (k + 1)) g w
    rw [← mul_asc hg (powR_b k) hg dA (powR_dA dA k) dA (by omega) hw, mul_c (g' := powR g (k + 1)) (h' := g) ih (fun _ _ => rfl)]
theorem pow_eq {g : Nat → Int} (hg : resd g) {A : Nat} (dA : dgr g ≤ (A : Nat)) (m : Nat) (h : A * m + A ≤ 30) : ∀ w, w < 496 → powL g m w = powR g m w := by
  induction m with
  | zero => exact fun _ _ => rfl
  | succ m ih =>
    intro w hw
    have hk : A * (m + 1) = A * m + A := Nat.mul_succ _ _
    have ih := ih (by omega)
    show mul g (powL g m) w = _
    rw [mul_c (g' := g) (h' := powR g m) (fun _ _ => rfl) ih]
    exact pow_cm hg dA m (by omega) w hw
