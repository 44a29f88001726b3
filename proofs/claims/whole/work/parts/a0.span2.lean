/-! Ranks and spans. Written by wip/whole/gen_a0.py. -/
theorem rk_pl (o : Int) (i j : Nat) : rk o (pl i j) = tri (i + j) + (if o = 0 then j else i) := by unfold rk; rw [wn_pl, xw_pl, dw_pl]
theorem rk_add {o : Int} {i j i' j' : Nat} (p q : Nat) (h : rk o (pl i j) ≤ rk o (pl i' j')) : rk o (pl (p + i) (q + j)) ≤ rk o (pl (p + i') (q + j')) := by
  rcases Nat.lt_trichotomy (i + j) (i' + j') with c | c | c
  · exact Nat.le_of_lt (rk_d (by rw [wn_pl, wn_pl]; omega))
  · rw [rk_pl, rk_pl, c] at h
    rw [rk_pl, rk_pl, show p + i + (q + j) = p + i' + (q + j') by omega]
    by_cases e : o = 0
    · rw [if_pos e, if_pos e] at *; omega
    · rw [if_neg e, if_neg e] at *; omega
  · have := rk_d (o := o) (w := pl i' j') (v := pl i j) (by rw [wn_pl, wn_pl]; omega)
    omega
theorem rk_adl {o : Int} {i j i' j' : Nat} (p q : Nat) (h : rk o (pl i j) < rk o (pl i' j')) : rk o (pl (p + i) (q + j)) < rk o (pl (p + i') (q + j')) := by
  have h1 := rk_add p q (Nat.le_of_lt h)
  refine Nat.lt_of_le_of_ne h1 fun e => ?_
  have := pl_iff.mp (rk_inj e)
  rw [xw_pl, dw_pl] at this
  rw [show i = i' by omega, show j = j' by omega] at h
  omega
/-- no word of g is beyond u -/
def Bd (o : Int) (g : Nat → Int) (u : Nat) : Prop := ∀ v, g v % 10007 ≠ 0 → rk o v ≤ rk o u
theorem Bd_z {o : Int} {g : Nat → Int} {u v : Nat} (h : Bd o g u) (hv : rk o u < rk o v) : g v % 10007 = 0 := Decidable.not_not.mp fun z => by have := h v z; omega
theorem Bd_X {o : Int} {g : Nat → Int} {i j : Nat} (h : Bd o g (pl i j)) : Bd o (Xo g) (pl (i + 1) j) := fun v hv => by
  rw [← pl_w v] at hv ⊢
  generalize xw v = a at *
  generalize dw v = b at *
  rw [Xo_p] at hv
  by_cases e : a = 0
  · rw [if_pos e] at hv; exact absurd rfl hv
  · rw [if_neg e] at hv
    have := rk_add 1 0 (h _ hv)
    rw [show 1 + (a - 1) = a by omega, show 0 + b = b by omega, show 1 + i = i + 1 by omega, show 0 + j = j by omega] at this
    exact this
theorem Bd_D {o : Int} {g : Nat → Int} {i j : Nat} (h : Bd o g (pl i j)) : Bd o (Do g) (pl i (j + 1)) := fun v hv => by
  rw [← pl_w v] at hv ⊢
  generalize xw v = a at *
  generalize dw v = b at *
  rw [Do_p] at hv
  by_cases c : g (pl (a + 1) b) % 10007 = 0
  · have e1 : ((a : Int) + 1) * g (pl (a + 1) b) % 10007 = 0 := by rw [md_mul (b := 0) (by rw [c]; rfl), Int.mul_zero]; rfl
    generalize ((a : Int) + 1) * g (pl (a + 1) b) = x at *
    by_cases e : b = 0
    · rw [if_pos e] at hv; omega
    · rw [if_neg e] at hv
      have := rk_add 0 1 (h (pl a (b - 1)) (by omega))
      rw [show 1 + (b - 1) = b by omega, show 0 + a = a by omega, show 1 + j = j + 1 by omega, show 0 + i = i by omega] at this
      exact this
  · have h1 := rk_le_wn (h _ c)
    rw [wn_pl, wn_pl] at h1
    exact Nat.le_of_lt (rk_d (by rw [wn_pl, wn_pl]; omega))
theorem Bd_W {o : Int} {g : Nat → Int} {i j : Nat} (h : Bd o g (pl i j)) (p q : Nat) : Bd o (Wo p q g) (pl (p + i) (q + j)) := by
  have hq : Bd o (itr Do q g) (pl i (q + j)) := by
    induction q with
    | zero => rw [Nat.zero_add]; exact h
    | succ q ih => rw [show q + 1 + j = q + j + 1 by omega]; exact Bd_D ih
  unfold Wo
  induction p with
  | zero => rw [Nat.zero_add]; exact hq
  | succ p ih => rw [show p + 1 + i = p + i + 1 by omega]; exact Bd_X ih
/-- the lead's coefficient stays -/
theorem Wo_ld {o : Int} {g : Nat → Int} {i j : Nat} (h : Bd o g (pl i j)) (p q : Nat) : Wo p q g (pl (p + i) (q + j)) % 10007 = g (pl i j) % 10007 := by
  have hq : itr Do q g (pl i (q + j)) % 10007 = g (pl i j) % 10007 ∧ Bd o (itr Do q g) (pl i (q + j)) := by
    induction q with
    | zero => rw [Nat.zero_add]; exact ⟨rfl, h⟩
    | succ q ih =>
      rw [show q + 1 + j = q + j + 1 by omega]
      refine ⟨?_, Bd_D ih.2⟩
      show Do (itr Do q g) (pl i (q + j + 1)) % 10007 = _
      rw [Do_p, if_neg (by omega), Nat.add_sub_cancel]
      have z := Bd_z ih.2 (v := pl (i + 1) (q + j + 1)) (rk_d (by rw [wn_pl, wn_pl]; omega))
      have e1 : ((i : Int) + 1) * itr Do q g (pl (i + 1) (q + j + 1)) % 10007 = 0 := by rw [md_mul (b := 0) (by rw [z]; rfl), Int.mul_zero]; rfl
      have := ih.1
      generalize ((i : Int) + 1) * itr Do q g (pl (i + 1) (q + j + 1)) = x at *
      omega
  unfold Wo
  induction p with
  | zero => rw [Nat.zero_add]; exact hq.1
  | succ p ih =>
    show Xo (itr Xo p (itr Do q g)) (pl (p + 1 + i) (q + j)) % 10007 = _
    rw [Xo_p, if_neg (by omega), show p + 1 + i - 1 = p + i by omega]
    exact ih
theorem Wo_lin (p q : Nat) (A B : Nat → Int) (c : Int) : Wo p q (fun w => A w + c * B w) = fun w => Wo p q A w + c * Wo p q B w := by
  have hq : itr Do q (fun w => A w + c * B w) = fun w => itr Do q A w + c * itr Do q B w := by
    induction q with
    | zero => rfl
    | succ q ih => show Do (itr Do q _) = fun w => Do (itr Do q A) w + c * Do (itr Do q B) w; rw [ih, Do_lin]
  unfold Wo
  rw [hq]
  induction p with
  | zero => rfl
  | succ p ih => show Xo (itr Xo p _) = fun w => Xo (itr Xo p (itr Do q A)) w + c * Xo (itr Xo p (itr Do q B)) w; rw [ih, Xo_lin]
theorem Wo_0 (p q : Nat) : Wo p q (fun _ => 0) = fun _ => 0 := by
  have := Wo_lin p q (fun _ => 0) (fun _ => 0) (-1)
  rw [show (fun w : Nat => (fun _ : Nat => (0 : Int)) w + -1 * (fun _ : Nat => (0 : Int)) w) = fun _ => 0 from rfl] at this
  funext w
  have h := congrFun this w
  show Wo p q (fun _ => 0) w = 0
  omega
/-- what lies in the span below r is 0 from r on -/
theorem Vr_z {o : Int} {G : (Nat → Int) → Nat → Prop} (hG : ∀ g l, G g l → Bd o g l) {r : Nat} {f : Nat → Int} (hf : Vr o G r f) : ∀ v, r ≤ rk o v → f v % 10007 = 0 := by
  refine hf (fun f => ∀ v, r ≤ rk o v → f v % 10007 = 0) ⟨fun f g e h v hv => by rw [← e v]; exact h v hv, fun v _ => rfl, fun f g c hf hg v hv => ?_⟩ (fun g l p q hg hr v hv => ?_)
  · have h1 := hf v hv
    have h2 : c * g v % 10007 = 0 := by rw [md_mul (b := 0) (by rw [hg v hv]; rfl), Int.mul_zero]; rfl
    show (f v + c * g v) % 10007 = 0
    generalize c * g v = x at *
    omega
  · have := hG g l hg
    rw [← pl_w l] at this
    exact Bd_z (Bd_W this p q) (by omega)
/-- a word times the span -/
theorem Vr_W {o : Int} {G : (Nat → Int) → Nat → Prop} {i j : Nat} {f : Nat → Int} (hf : Vr o G (rk o (pl i j)) f) (p q : Nat) : Vr o G (rk o (pl (p + i) (q + j))) (Wo p q f) := by
  have hL := Vr_L o G (rk o (pl (p + i) (q + j)))
  refine hf (fun f => Vr o G (rk o (pl (p + i) (q + j))) (Wo p q f)) ⟨fun f g e h => hL.1 _ _ (Wo_cg e p q) h, by show Vr o G _ (Wo p q (fun _ => 0)); rw [Wo_0]; exact hL.2.1, fun f g c hf hg => by show Vr o G _ (Wo p q (fun w => f w + c * g w)); rw [Wo_lin]; exact hL.2.2 _ _ c hf hg⟩ (fun g l a b hg hr => ?_)
  show Vr o G _ (Wo p q (Wo a b g))
  rw [Wo_Wo]
  refine Lin_sm hL _ _ _ (fun k _ hk => ?_)
  rw [Wo_dl] at hk
  obtain ⟨t, h1, h2, e⟩ := co_ne (p := p) (q := q) (i := a) (j := b) (w := k) (fun z => hk (by rw [z]; rfl))
  refine Vr_g hg (Nat.lt_of_le_of_lt ?_ (rk_adl p q hr))
  rw [e, xw_pl, dw_pl]
  by_cases c : t = 0
  · rw [c, show p + a - 0 + xw l = p + (a + xw l) by omega, show q - 0 + b + dw l = q + (b + dw l) by omega]
    exact Nat.le_refl _
  · exact Nat.le_of_lt (rk_d (by rw [wn_pl, wn_pl]; omega))
