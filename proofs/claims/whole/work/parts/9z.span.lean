/-! Spans of words times rows. Written by wip/whole/gen_9z.py. -/
theorem dlt_S (i j : Nat) : Sup (i + j + 1) (dlt (pl i j)) := Sup_iff.mpr fun a b h => by
  unfold dlt
  refine if_neg fun z => ?_
  have := pl_iff.mp z
  rw [xw_pl, dw_pl] at this
  omega
theorem Mu_dlt (i j : Nat) (f : Nat → Int) : Mu (dlt (pl i j)) (tri (i + j + 1)) f = Wo i j f := by
  funext w
  unfold Mu
  have hp : pl i j < tri (i + j + 1) := by
    rw [tri_s]
    show tri (i + j) + j < _
    omega
  rw [smk_one (m := pl i j) hp (fun k _ hne => by show (if k = pl i j then 1 else 0) * _ = 0; rw [if_neg hne, Int.zero_mul]), xw_pl, dw_pl]
  show (if pl i j = pl i j then 1 else 0) * _ = _
  rw [if_pos rfl, Int.one_mul]
/-- a word times a word -/
theorem Wo_dl (p q i j w : Nat) : Wo p q (dlt (pl i j)) w % 10007 = co p q i j w % 10007 := by
  rw [← cor_Wo p q (dlt_S i j) w]
  refine congrArg (· % 10007) ?_
  unfold cor
  have hp : pl i j < tri (i + j + 1) := by
    rw [tri_s]
    show tri (i + j) + j < _
    omega
  rw [smk_one (m := pl i j) hp (fun k _ hne => by show (if k = pl i j then 1 else 0) * _ = 0; rw [if_neg hne, Int.zero_mul]), xw_pl, dw_pl]
  show (if pl i j = pl i j then 1 else 0) * _ = _
  rw [if_pos rfl, Int.one_mul]
theorem Wo_Wo (p q i j : Nat) (f : Nat → Int) : Wo p q (Wo i j f) = Mu (Wo p q (dlt (pl i j))) (tri (i + j + 1 + q + p)) f := by
  rw [(Wo_Mu (dlt_S i j) f p q).2, Mu_dlt]
/-- closed under congruence, sums, multiples -/
def Lin (T : (Nat → Int) → Prop) : Prop := (∀ f g, (∀ w, f w % 10007 = g w % 10007) → T f → T g) ∧ T (fun _ => 0) ∧ ∀ f g c, T f → T g → T (fun w => f w + c * g w)
theorem Lin_sm {T : (Nat → Int) → Prop} (hT : Lin T) (c : Nat → Int) (F : Nat → Nat → Int) (n : Nat) (h : ∀ k, k < n → c k % 10007 ≠ 0 → T (F k)) : T (fun w => smk (fun k => c k * F k w) n) := by
  induction n with
  | zero => exact hT.2.1
  | succ n ih =>
    have ih := ih (fun k hk => h k (by omega))
    by_cases e : c n % 10007 = 0
    · refine hT.1 (fun w => smk (fun k => c k * F k w) n) _ (fun w => ?_) ih
      show smk (fun k => c k * F k w) n % 10007 = (smk (fun k => c k * F k w) n + c n * F n w) % 10007
      have : c n * F n w % 10007 = 0 := by rw [Int.mul_comm, md_mul (b := 0) (by rw [e]; rfl), Int.mul_zero]; rfl
      generalize c n * F n w = x at *
      generalize smk (fun k => c k * F k w) n = y at *
      omega
    · exact hT.2.2 _ (F n) (c n) ih (h n (by omega) e)
/-- the span of the words times the rows of G (G f l: the row f with the lead l) whose lead has a rank below r -/
def Vr (o : Int) (G : (Nat → Int) → Nat → Prop) (r : Nat) (f : Nat → Int) : Prop := ∀ T, Lin T → (∀ g l p q, G g l → rk o (pl (p + xw l) (q + dw l)) < r → T (Wo p q g)) → T f
theorem Vr_L (o : Int) (G : (Nat → Int) → Nat → Prop) (r : Nat) : Lin (Vr o G r) := ⟨fun f g e h T hT hG => hT.1 f g e (h T hT hG), fun T hT _ => hT.2.1, fun f g c hf hg T hT hG => hT.2.2 f g c (hf T hT hG) (hg T hT hG)⟩
theorem Vr_g {o : Int} {G : (Nat → Int) → Nat → Prop} {r : Nat} {g : Nat → Int} {l p q : Nat} (hg : G g l) (hr : rk o (pl (p + xw l) (q + dw l)) < r) : Vr o G r (Wo p q g) := fun _ _ hG => hG g l p q hg hr
theorem Vr_m {o : Int} {G H : (Nat → Int) → Nat → Prop} {r s : Nat} (h : ∀ g l, G g l → H g l) (hr : r ≤ s) {f : Nat → Int} (hf : Vr o G r f) : Vr o H s f := fun T hT hG => hf T hT (fun g l p q hg hq => hG g l p q (h g l hg) (by omega))
