/-! The criterion by neighbours. Written by wip/whole/gen_a1.py. -/
def sbr (f g : Nat → Int) : Nat → Int := fun w => f w + -1 * g w
theorem Vr_s {o : Int} {G : (Nat → Int) → Nat → Prop} {r : Nat} {f g : Nat → Int} (hf : Vr o G r f) (hg : Vr o G r g) : Vr o G r (sbr f g) := (Vr_L o G r).2.2 f g (-1) hf hg
/-- a word times a word times a row: the product's lead, and what is below -/
theorem Wo_lt {o : Int} {G : (Nat → Int) → Nat → Prop} {g : Nat → Int} {l : Nat} (hg : G g l) (p q i j : Nat) : Vr o G (rk o (pl (p + i + xw l) (q + j + dw l))) (sbr (Wo p q (Wo i j g)) (Wo (p + i) (q + j) g)) := by
  have e1 : Wo (p + i) (q + j) g = Mu (dlt (pl (p + i) (q + j))) (tri (i + j + 1 + q + p)) g := by
    rw [show i + j + 1 + q + p = p + i + (q + j) + 1 by omega, Mu_dlt]
  have e2 : sbr (Wo p q (Wo i j g)) (Wo (p + i) (q + j) g) = Mu (fun k => Wo p q (dlt (pl i j)) k + -1 * dlt (pl (p + i) (q + j)) k) (tri (i + j + 1 + q + p)) g := by
    rw [Mu_lin, ← e1, ← Wo_Wo]
    rfl
  rw [e2]
  refine Lin_sm (Vr_L o G _) _ _ _ (fun k _ hk => ?_)
  have hW := Wo_dl p q i j k
  have hne : k ≠ pl (p + i) (q + j) := fun e => hk (by
    have h1 := co_top p q i j
    rw [← e] at h1
    rw [h1] at hW
    show (Wo p q (dlt (pl i j)) k + -1 * (if k = pl (p + i) (q + j) then 1 else 0)) % 10007 = 0
    rw [if_pos e]
    omega)
  have hc : co p q i j k ≠ 0 := fun z => hk (by
    rw [z] at hW
    show (Wo p q (dlt (pl i j)) k + -1 * (if k = pl (p + i) (q + j) then 1 else 0)) % 10007 = 0
    rw [if_neg hne]
    omega)
  obtain ⟨t, h1, h2, e⟩ := co_ne hc
  have ht : t ≠ 0 := fun z => hne (by rw [e, z]; exact pl_iff.mpr (by rw [xw_pl, dw_pl]; omega))
  refine Vr_g hg (rk_d ?_)
  rw [e, xw_pl, dw_pl, wn_pl, wn_pl]
  omega
/-- n rows with their leads -/
def Rw (n : Nat) (G : Nat → Nat → Int) (l : Nat → Nat) : (Nat → Int) → Nat → Prop := fun g w => ∃ k, k < n ∧ g = G k ∧ w = l k
/-- monic rows with the leads of a staircase, the crosses of neighbours below their least common multiple -/
def Stc (o : Int) (n : Nat) (G : Nat → Nat → Int) (l : Nat → Nat) : Prop := (∀ k, k < n → Bd o (G k) (l k) ∧ G k (l k) % 10007 = 1) ∧ (∀ k, k + 1 < n → xw (l (k + 1)) ≤ xw (l k) ∧ dw (l k) ≤ dw (l (k + 1)) ∧ Vr o (Rw n G l) (rk o (pl (xw (l k)) (dw (l (k + 1))))) (sbr (Wo 0 (dw (l (k + 1)) - dw (l k)) (G k)) (Wo (xw (l k) - xw (l (k + 1))) 0 (G (k + 1)))))
/-- the multiple of the k-th row with the lead u -/
def eu (G : Nat → Nat → Int) (l : Nat → Nat) (u k : Nat) : Nat → Int := Wo (xw u - xw (l k)) (dw u - dw (l k)) (G k)
theorem itr_a (F : (Nat → Int) → Nat → Int) (a b : Nat) (f : Nat → Int) : itr F a (itr F b f) = itr F (a + b) f := by
  induction a with
  | zero => rw [Nat.zero_add]; rfl
  | succ a ih => rw [show a + 1 + b = a + b + 1 by omega]; show F (itr F a (itr F b f)) = F (itr F (a + b) f); rw [ih]
theorem eu_nb {o : Int} {n : Nat} {G : Nat → Nat → Int} {l : Nat → Nat} (h : Stc o n G l) {u k : Nat} (hk : k + 1 < n) (hx : xw (l k) ≤ xw u) (hd : dw (l (k + 1)) ≤ dw u) : Vr o (Rw n G l) (rk o u) (sbr (eu G l u k) (eu G l u (k + 1))) := by
  obtain ⟨a1, a2, a3⟩ := h.2 k hk
  have hu : pl (xw u - xw (l k) + xw (l k)) (dw u - dw (l (k + 1)) + dw (l (k + 1))) = u := by
    rw [show xw u - xw (l k) + xw (l k) = xw u by omega, show dw u - dw (l (k + 1)) + dw (l (k + 1)) = dw u by omega, pl_w]
  have b1 := Vr_W a3 (xw u - xw (l k)) (dw u - dw (l (k + 1)))
  rw [hu] at b1
  have b2 := Wo_lt (o := o) (G := Rw n G l) (g := G (k + 1)) (l := l (k + 1)) ⟨k + 1, hk, rfl, rfl⟩ (xw u - xw (l k)) (dw u - dw (l (k + 1))) (xw (l k) - xw (l (k + 1))) 0
  rw [show xw u - xw (l k) + (xw (l k) - xw (l (k + 1))) = xw u - xw (l (k + 1)) by omega, show dw u - dw (l (k + 1)) + 0 = dw u - dw (l (k + 1)) by omega, show xw u - xw (l (k + 1)) + xw (l (k + 1)) = xw u by omega, show dw u - dw (l (k + 1)) + dw (l (k + 1)) = dw u by omega, pl_w] at b2
  have b3 := (Vr_L o (Rw n G l) (rk o u)).2.2 _ _ 1 b1 b2
  refine (Vr_L o (Rw n G l) (rk o u)).1 _ _ (fun w => ?_) b3
  have e1 : Wo (xw u - xw (l k)) (dw u - dw (l (k + 1))) (Wo 0 (dw (l (k + 1)) - dw (l k)) (G k)) = eu G l u k := by
    show itr Xo _ (itr Do _ (itr Do _ (G k))) = itr Xo _ (itr Do _ (G k))
    rw [itr_a, show dw u - dw (l (k + 1)) + (dw (l (k + 1)) - dw (l k)) = dw u - dw (l k) by omega]
  unfold sbr
  rw [Wo_lin, e1]
  unfold eu
  dsimp only
  generalize Wo (xw u - xw (l k)) (dw u - dw (l (k + 1))) (Wo (xw (l k) - xw (l (k + 1))) 0 (G (k + 1))) w = x
  generalize Wo (xw u - xw (l (k + 1))) (dw u - dw (l (k + 1))) (G (k + 1)) w = y
  generalize Wo (xw u - xw (l k)) (dw u - dw (l k)) (G k) w = z
  refine congrArg (· % 10007) ?_
  omega
theorem eu_tl {o : Int} {n : Nat} {G : Nat → Nat → Int} {l : Nat → Nat} (h : Stc o n G l) {u i : Nat} (m : Nat) (hm : i + m < n) (hx : xw (l i) ≤ xw u) (hd : dw (l (i + m)) ≤ dw u) : Vr o (Rw n G l) (rk o u) (sbr (eu G l u i) (eu G l u (i + m))) ∧ xw (l (i + m)) ≤ xw u := by
  induction m with
  | zero =>
    refine ⟨(Vr_L o (Rw n G l) (rk o u)).1 _ _ (fun w => ?_) (Vr_L o (Rw n G l) (rk o u)).2.1, hx⟩
    show (0 : Int) % 10007 = (eu G l u i w + -1 * eu G l u (i + 0) w) % 10007
    rw [Nat.add_zero]
    generalize eu G l u i w = x
    omega
  | succ m ih =>
    obtain ⟨a1, a2, a3⟩ := h.2 (i + m) (by omega)
    rw [show i + (m + 1) = i + m + 1 by omega] at hd ⊢
    obtain ⟨b1, b2⟩ := ih (by omega) (by omega)
    have b3 := eu_nb h (u := u) (k := i + m) (by omega) b2 hd
    refine ⟨(Vr_L o (Rw n G l) (rk o u)).1 _ _ (fun w => ?_) ((Vr_L o (Rw n G l) (rk o u)).2.2 _ _ 1 b1 b3), by omega⟩
    unfold sbr
    generalize eu G l u i w = x
    generalize eu G l u (i + m) w = y
    generalize eu G l u (i + m + 1) w = z
    refine congrArg (· % 10007) ?_
    omega
theorem eu_df {o : Int} {n : Nat} {G : Nat → Nat → Int} {l : Nat → Nat} (h : Stc o n G l) {u i j : Nat} (hi : i < n) (hj : j < n) (hxi : xw (l i) ≤ xw u) (hdi : dw (l i) ≤ dw u) (hxj : xw (l j) ≤ xw u) (hdj : dw (l j) ≤ dw u) : Vr o (Rw n G l) (rk o u) (sbr (eu G l u i) (eu G l u j)) := by
  by_cases c : i ≤ j
  · have := (eu_tl h (u := u) (i := i) (j - i) (by omega) hxi (by rw [show i + (j - i) = j by omega]; exact hdj)).1
    rw [show i + (j - i) = j by omega] at this
    exact this
  · have := (eu_tl h (u := u) (i := j) (i - j) (by omega) hxj (by rw [show j + (i - j) = i by omega]; exact hdi)).1
    rw [show j + (i - j) = i by omega] at this
    refine (Vr_L o (Rw n G l) (rk o u)).1 _ _ (fun w => ?_) ((Vr_L o (Rw n G l) (rk o u)).2.2 _ _ (-1) (Vr_L o (Rw n G l) (rk o u)).2.1 this)
    unfold sbr
    generalize eu G l u i w = x
    generalize eu G l u j w = y
    refine congrArg (· % 10007) ?_
    omega
/-- the criterion: what lies in the span up to u and is 0 at u lies below u -/
theorem crit {o : Int} {n : Nat} {G : Nat → Nat → Int} {l : Nat → Nat} (h : Stc o n G l) {u : Nat} {f : Nat → Int} (hf : Vr o (Rw n G l) (rk o u + 1) f) (hu : f u % 10007 = 0) : Vr o (Rw n G l) (rk o u) f := by
  have hL := Vr_L o (Rw n G l) (rk o u)
  have hBd : ∀ g w, Rw n G l g w → Bd o g w := fun g w ⟨k, hk, eg, ew⟩ => by rw [eg, ew]; exact (h.1 k hk).1
  have htop : ∀ p q k, k < n → rk o (pl (p + xw (l k)) (q + dw (l k))) < rk o u + 1 → ¬ rk o (pl (p + xw (l k)) (q + dw (l k))) < rk o u → xw (l k) ≤ xw u ∧ dw (l k) ≤ dw u ∧ Wo p q (G k) = eu G l u k := fun p q k _ h1 h2 => by
    have e : pl (p + xw (l k)) (q + dw (l k)) = u := rk_inj (o := o) (by omega)
    have := pl_iff.mp e.symm
    refine ⟨by omega, by omega, ?_⟩
    unfold eu
    rw [this.1, this.2, Nat.add_sub_cancel, Nat.add_sub_cancel]
  by_cases c : ∃ i, i < n ∧ xw (l i) ≤ xw u ∧ dw (l i) ≤ dw u
  · obtain ⟨i, hi, hx, hd⟩ := c
    have key : ∃ (a : Int) (g : Nat → Int), Vr o (Rw n G l) (rk o u) g ∧ ∀ w, f w % 10007 = (g w + a * eu G l u i w) % 10007 := by
      refine hf (fun f => ∃ (a : Int) (g : Nat → Int), Vr o (Rw n G l) (rk o u) g ∧ ∀ w, f w % 10007 = (g w + a * eu G l u i w) % 10007) ⟨fun f f' e ⟨a, g, h1, h2⟩ => ⟨a, g, h1, fun w => by rw [← e w]; exact h2 w⟩, ⟨0, fun _ => 0, hL.2.1, fun w => by rw [Int.zero_mul]; rfl⟩, fun f f' c ⟨a, g, h1, h2⟩ ⟨a', g', h1', h2'⟩ => ⟨a + c * a', fun w => g w + c * g' w, hL.2.2 g g' c h1 h1', fun w => ?_⟩⟩ (fun g w p q ⟨k, hk, eg, ew⟩ hr => ?_)
      · have b1 := h2 w
        have b2 := md_mul (c := c) (h2' w)
        rw [Int.mul_add, ← Int.mul_assoc] at b2
        show (f w + c * f' w) % 10007 = (g w + c * g' w + (a + c * a') * eu G l u i w) % 10007
        rw [Int.add_mul]
        generalize c * f' w = x1 at *
        generalize c * g' w = x2 at *
        generalize c * a' * eu G l u i w = x3 at *
        generalize a * eu G l u i w = x4 at *
        omega
      · subst eg
        subst ew
        by_cases c2 : rk o (pl (p + xw (l k)) (q + dw (l k))) < rk o u
        · exact ⟨0, _, Vr_g ⟨k, hk, rfl, rfl⟩ c2, fun w => by rw [Int.zero_mul, Int.add_zero]⟩
        · obtain ⟨k1, k2, k3⟩ := htop p q k hk hr c2
          rw [k3]
          refine ⟨1, _, eu_df h hk hi k1 k2 hx hd, fun w => ?_⟩
          unfold sbr
          generalize eu G l u k w = x
          generalize eu G l u i w = y
          refine congrArg (· % 10007) ?_
          omega
    obtain ⟨a, g, h1, h2⟩ := key
    have g0 := Vr_z hBd h1 u (Nat.le_refl _)
    have hb := (h.1 i hi).1
    rw [← pl_w (l i)] at hb
    have e0 := Wo_ld hb (xw u - xw (l i)) (dw u - dw (l i))
    rw [show xw u - xw (l i) + xw (l i) = xw u by omega, show dw u - dw (l i) + dw (l i) = dw u by omega, pl_w, pl_w, (h.1 i hi).2] at e0
    have a0 : a % 10007 = 0 := by
      have b1 := h2 u
      have b2 := md_mul (c := a) (a := eu G l u i u) (b := 1) (by rw [show eu G l u i u % 10007 = 1 from e0]; rfl)
      rw [Int.mul_one] at b2
      generalize a * eu G l u i u = x at *
      omega
    refine hL.1 g f (fun w => ?_) h1
    have b1 := h2 w
    have b2 : a * eu G l u i w % 10007 = 0 := by rw [Int.mul_comm, md_mul (b := 0) (by rw [a0]; rfl), Int.mul_zero]; rfl
    generalize a * eu G l u i w = x at *
    omega
  · refine hf (Vr o (Rw n G l) (rk o u)) hL (fun g w p q ⟨k, hk, eg, ew⟩ hr => ?_)
    subst eg
    subst ew
    by_cases c2 : rk o (pl (p + xw (l k)) (q + dw (l k))) < rk o u
    · exact Vr_g ⟨k, hk, rfl, rfl⟩ c2
    · obtain ⟨k1, k2, _⟩ := htop p q k hk hr c2
      exact absurd ⟨k, hk, k1, k2⟩ c
