/-! The Weyl algebra on rows (all words, no bound): X, D, products, associativity. Written by wip/whole/gen_9v.py. -/
def Xo (f : Nat → Int) : Nat → Int := fun w => if xw w = 0 then 0 else f (pl (xw w - 1) (dw w))
def Do (f : Nat → Int) : Nat → Int := fun w => (if dw w = 0 then 0 else f (pl (xw w) (dw w - 1))) + (((xw w : Nat) : Int) + 1) * f (pl (xw w + 1) (dw w))
theorem Xo_p (f : Nat → Int) (i j : Nat) : Xo f (pl i j) = if i = 0 then 0 else f (pl (i - 1) j) := by unfold Xo; rw [xw_pl, dw_pl]
theorem Do_p (f : Nat → Int) (i j : Nat) : Do f (pl i j) = (if j = 0 then 0 else f (pl i (j - 1))) + ((i : Int) + 1) * f (pl (i + 1) j) := by unfold Do; rw [xw_pl, dw_pl]
theorem ext_pl {f g : Nat → Int} (h : ∀ i j, f (pl i j) = g (pl i j)) : f = g := by
  funext w
  rw [← pl_w w]
  exact h _ _
theorem Xo_lin (A B : Nat → Int) (c : Int) : Xo (fun w => A w + c * B w) = fun w => Xo A w + c * Xo B w := by
  funext w
  unfold Xo
  by_cases e : xw w = 0
  · rw [if_pos e, if_pos e, if_pos e, Int.mul_zero]; rfl
  · rw [if_neg e, if_neg e, if_neg e]
theorem Xo_sm (c : Nat → Int) (F : Nat → Nat → Int) (n : Nat) : Xo (fun w => smk (fun k => c k * F k w) n) = fun w => smk (fun k => c k * Xo (F k) w) n := by
  induction n with
  | zero => funext w; show (if xw w = 0 then (0 : Int) else 0) = 0; split <;> rfl
  | succ n ih =>
    show Xo (fun w => smk (fun k => c k * F k w) n + c n * F n w) = fun w => smk (fun k => c k * Xo (F k) w) n + c n * Xo (F n) w
    rw [Xo_lin (fun w => smk (fun k => c k * F k w) n) (F n) (c n), ih]
theorem Do_lin (A B : Nat → Int) (c : Int) : Do (fun w => A w + c * B w) = fun w => Do A w + c * Do B w := by
  funext w
  unfold Do
  by_cases e : dw w = 0
  · rw [if_pos e, if_pos e, if_pos e, Int.mul_add, Int.zero_add, Int.zero_add, Int.zero_add, Int.mul_left_comm]
  · rw [if_neg e, if_neg e, if_neg e, Int.mul_add, Int.mul_add, Int.mul_left_comm c]
    dsimp only
    omega
theorem Do_sm (c : Nat → Int) (F : Nat → Nat → Int) (n : Nat) : Do (fun w => smk (fun k => c k * F k w) n) = fun w => smk (fun k => c k * Do (F k) w) n := by
  induction n with
  | zero => funext w; show (if dw w = 0 then (0 : Int) else 0) + (((xw w : Nat) : Int) + 1) * 0 = 0; rw [Int.mul_zero]; split <;> rfl
  | succ n ih =>
    show Do (fun w => smk (fun k => c k * F k w) n + c n * F n w) = fun w => smk (fun k => c k * Do (F k) w) n + c n * Do (F n) w
    rw [Do_lin (fun w => smk (fun k => c k * F k w) n) (F n) (c n), ih]
/-- d x = x d + 1 -/
theorem DoXo (f : Nat → Int) : Do (Xo f) = fun w => Xo (Do f) w + f w := by
  refine ext_pl fun i j => ?_
  show Do (Xo f) (pl i j) = Xo (Do f) (pl i j) + f (pl i j)
  rw [Do_p, Xo_p, Xo_p, Xo_p, if_neg (show ¬ i + 1 = 0 by omega), Nat.add_sub_cancel]
  by_cases e : i = 0
  · subst e
    rw [if_pos rfl, if_pos rfl]
    split
    · show 0 + ((0 : Int) + 1) * f (pl 0 j) = _; omega
    · show 0 + ((0 : Int) + 1) * f (pl 0 j) = _; omega
  · rw [if_neg e, if_neg e, Do_p, show i - 1 + 1 = i by omega, show ((i - 1 : Nat) : Int) + 1 = (i : Int) by omega, Int.add_mul, Int.one_mul]
    split <;> omega
def itr (F : (Nat → Int) → Nat → Int) : Nat → (Nat → Int) → Nat → Int
  | 0, f => f
  | n + 1, f => F (itr F n f)
theorem Do_itr (f : Nat → Int) (p : Nat) : Do (itr Xo p f) = fun w => itr Xo p (Do f) w + (p : Int) * itr Xo (p - 1) f w := by
  induction p with
  | zero => funext w; show Do f w = Do f w + ((0 : Nat) : Int) * f w; rw [show ((0 : Nat) : Int) = 0 from rfl, Int.zero_mul, Int.add_zero]
  | succ p ih =>
    show Do (Xo (itr Xo p f)) = fun w => Xo (itr Xo p (Do f)) w + ((p + 1 : Nat) : Int) * itr Xo p f w
    rw [DoXo, ih, Xo_lin (itr Xo p (Do f)) (itr Xo (p - 1) f) (p : Int)]
    funext w
    show Xo (itr Xo p (Do f)) w + (p : Int) * Xo (itr Xo (p - 1) f) w + itr Xo p f w = _
    rw [show ((p + 1 : Nat) : Int) = (p : Int) + 1 by omega, Int.add_mul, Int.one_mul]
    by_cases e : p = 0
    · subst e
      rw [show ((0 : Nat) : Int) = 0 from rfl, Int.zero_mul, Int.zero_mul]
      omega
    · rw [show Xo (itr Xo (p - 1) f) = itr Xo (p - 1 + 1) f from rfl, show p - 1 + 1 = p by omega]
      omega
/-- a word times a row -/
def Wo (p q : Nat) (f : Nat → Int) : Nat → Int := itr Xo p (itr Do q f)
theorem Wo_X (p q : Nat) (f : Nat → Int) : Xo (Wo p q f) = Wo (p + 1) q f := rfl
theorem Wo_D (p q : Nat) (f : Nat → Int) : Do (Wo p q f) = fun w => Wo p (q + 1) f w + (p : Int) * Wo (p - 1) q f w := Do_itr (itr Do q f) p
/-- the row g, its first n words, times the row f -/
def Mu (g : Nat → Int) (n : Nat) (f : Nat → Int) : Nat → Int := fun w => smk (fun k => g k * Wo (xw k) (dw k) f w) n
theorem smk_tri (F : Nat → Nat → Int) (M : Nat) : smk (fun k => F (xw k) (dw k)) (tri M) = smk (fun D => smk (fun j => F (D - j) j) (D + 1)) M := by
  induction M with
  | zero => rfl
  | succ M ih =>
    rw [tri_s, smk_app, ih]
    show _ = smk (fun D => smk (fun j => F (D - j) j) (D + 1)) M + smk (fun j => F (M - j) j) (M + 1)
    refine congrArg (smk (fun D => smk (fun j => F (D - j) j) (D + 1)) M + ·) (smk_c fun j hj => ?_)
    obtain ⟨a1, a2⟩ := tri_w (D := M) (j := j) (by omega)
    rw [a1, a2]
theorem smk_1 (t : Nat → Int) (n : Nat) : smk t (n + 1) = t 0 + smk (fun k => t (k + 1)) n := by
  rw [Nat.add_comm n 1, smk_app]
  refine congr (congrArg _ (show (0 : Int) + t 0 = t 0 from Int.zero_add _)) (smk_c fun k _ => ?_)
  rw [Nat.add_comm 1 k]
theorem Mu_X (g f : Nat → Int) (M : Nat) : Mu (Xo g) (tri (M + 1)) f = Xo (Mu g (tri M) f) := by
  unfold Mu
  rw [Xo_sm g (fun k => Wo (xw k) (dw k) f)]
  funext w
  refine (smk_tri (fun i j => (if i = 0 then 0 else g (pl (i - 1) j)) * Wo i j f w) (M + 1)).trans ?_
  rw [smk_c (s := fun k => g k * Xo (Wo (xw k) (dw k) f) w) (t := fun k => (fun i j => g (pl i j) * Wo (i + 1) j f w) (xw k) (dw k)) (fun k _ => by rw [Wo_X]; show _ = g (pl (xw k) (dw k)) * _; rw [pl_w]), smk_tri (fun i j => g (pl i j) * Wo (i + 1) j f w) M, smk_1]
  rw [show smk (fun j => (fun i j => (if i = 0 then 0 else g (pl (i - 1) j)) * Wo i j f w) (0 - j) j) (0 + 1) = 0 from by show 0 + (0 : Int) * _ = 0; rw [Int.zero_mul]; rfl, Int.zero_add]
  refine smk_c fun D _ => ?_
  show smk (fun j => (if D + 1 - j = 0 then 0 else g (pl (D + 1 - j - 1) j)) * Wo (D + 1 - j) j f w) (D + 1) + (if D + 1 - (D + 1) = 0 then 0 else g (pl (D + 1 - (D + 1) - 1) (D + 1))) * Wo (D + 1 - (D + 1)) (D + 1) f w = _
  rw [if_pos (by omega), Int.zero_mul, Int.add_zero]
  refine smk_c fun j hj => ?_
  show (if D + 1 - j = 0 then 0 else g (pl (D + 1 - j - 1) j)) * Wo (D + 1 - j) j f w = g (pl (D - j) j) * Wo (D - j + 1) j f w
  rw [if_neg (by omega), show D + 1 - j - 1 = D - j by omega, show D + 1 - j = D - j + 1 by omega]
theorem Mu_D (g f : Nat → Int) (M : Nat) (hg : ∀ k, tri M ≤ k → g k = 0) : Mu (Do g) (tri (M + 1)) f = Do (Mu g (tri M) f) := by
  unfold Mu
  rw [Do_sm g (fun k => Wo (xw k) (dw k) f)]
  funext w
  have z : ∀ i j, M ≤ i + j → g (pl i j) = 0 := fun i j h => hg _ (by
    have := tri_m h
    show tri M ≤ tri (i + j) + j
    omega)
  refine (smk_tri (fun i j => ((if j = 0 then 0 else g (pl i (j - 1))) + ((i : Int) + 1) * g (pl (i + 1) j)) * Wo i j f w) (M + 1)).trans ?_
  rw [smk_c (s := fun k => g k * Do (Wo (xw k) (dw k) f) w) (t := fun k => (fun i j => g (pl i j) * (Wo i (j + 1) f w + (i : Int) * Wo (i - 1) j f w)) (xw k) (dw k)) (fun k _ => by rw [Wo_D]; show _ = g (pl (xw k) (dw k)) * _; rw [pl_w]), smk_tri (fun i j => g (pl i j) * (Wo i (j + 1) f w + (i : Int) * Wo (i - 1) j f w)) M]
  -- both sides in two sums
  have eL : ∀ D, smk (fun j => (fun i j => ((if j = 0 then 0 else g (pl i (j - 1))) + ((i : Int) + 1) * g (pl (i + 1) j)) * Wo i j f w) (D - j) j) (D + 1) = smk (fun j => (if j = 0 then 0 else g (pl (D - j) (j - 1))) * Wo (D - j) j f w) (D + 1) + smk (fun j => (((D - j : Nat) : Int) + 1) * g (pl (D - j + 1) j) * Wo (D - j) j f w) (D + 1) := fun D => by
    rw [← smk_add]
    exact smk_c fun j _ => Int.add_mul _ _ _
  have eR : ∀ D, smk (fun j => (fun i j => g (pl i j) * (Wo i (j + 1) f w + (i : Int) * Wo (i - 1) j f w)) (D - j) j) (D + 1) = smk (fun j => g (pl (D - j) j) * Wo (D - j) (j + 1) f w) (D + 1) + smk (fun j => ((D - j : Nat) : Int) * g (pl (D - j) j) * Wo (D - j - 1) j f w) (D + 1) := fun D => by
    rw [← smk_add]
    refine smk_c fun j _ => ?_
    show g (pl (D - j) j) * (Wo (D - j) (j + 1) f w + ((D - j : Nat) : Int) * Wo (D - j - 1) j f w) = _
    rw [Int.mul_add, ← Int.mul_assoc, Int.mul_comm (g (pl (D - j) j)) ((D - j : Nat) : Int)]
  rw [smk_c (fun D _ => eL D), smk_c (fun D _ => eR D), smk_add, smk_add]
  refine congr (congrArg _ ?_) ?_
  · rw [smk_1, show smk (fun j => (if j = 0 then 0 else g (pl (0 - j) (j - 1))) * Wo (0 - j) j f w) (0 + 1) = 0 from by show 0 + (0 : Int) * _ = 0; rw [Int.zero_mul]; rfl, Int.zero_add]
    refine smk_c fun D _ => ?_
    rw [smk_1]
    show (0 : Int) * _ + _ = _
    rw [Int.zero_mul, Int.zero_add]
    refine smk_c fun j hj => ?_
    show (if j + 1 = 0 then 0 else g (pl (D + 1 - (j + 1)) (j + 1 - 1))) * Wo (D + 1 - (j + 1)) (j + 1) f w = _
    rw [if_neg (by omega), show D + 1 - (j + 1) = D - j by omega, Nat.add_sub_cancel]
  · have e0 : ∀ D, M ≤ D → smk (fun j => ((D - j : Nat) : Int) * g (pl (D - j) j) * Wo (D - j - 1) j f w) (D + 1) = 0 := fun D hD => smk_ext (n := 0) (by omega) (fun j _ hj => by
      show ((D - j : Nat) : Int) * g (pl (D - j) j) * Wo (D - j - 1) j f w = 0
      rw [z _ _ (by omega), Int.mul_zero, Int.zero_mul])
    rw [← smk_ext (t := fun D => smk (fun j => ((D - j : Nat) : Int) * g (pl (D - j) j) * Wo (D - j - 1) j f w) (D + 1)) (n := M) (m := M + 1 + 1) (by omega) (fun D h1 _ => e0 D h1), smk_1 _ (M + 1)]
    rw [show smk (fun j => ((0 - j : Nat) : Int) * g (pl (0 - j) j) * Wo (0 - j - 1) j f w) (0 + 1) = 0 from by show 0 + (0 : Int) * _ * _ = 0; rw [Int.zero_mul, Int.zero_mul]; rfl, Int.zero_add]
    refine smk_c fun D _ => ?_
    show _ = smk (fun j => ((D + 1 - j : Nat) : Int) * g (pl (D + 1 - j) j) * Wo (D + 1 - j - 1) j f w) (D + 1) + ((D + 1 - (D + 1) : Nat) : Int) * g (pl (D + 1 - (D + 1)) (D + 1)) * Wo (D + 1 - (D + 1) - 1) (D + 1) f w
    rw [show ((D + 1 - (D + 1) : Nat) : Int) = 0 by omega, Int.zero_mul, Int.zero_mul, Int.add_zero]
    refine smk_c fun j hj => ?_
    show (((D - j : Nat) : Int) + 1) * g (pl (D - j + 1) j) * Wo (D - j) j f w = ((D + 1 - j : Nat) : Int) * g (pl (D + 1 - j) j) * Wo (D + 1 - j - 1) j f w
    rw [show D + 1 - j - 1 = D - j by omega, show D + 1 - j = D - j + 1 by omega, show ((D - j + 1 : Nat) : Int) = ((D - j : Nat) : Int) + 1 by omega]
theorem Mu_lin (A B : Nat → Int) (c : Int) (n : Nat) (f : Nat → Int) : Mu (fun k => A k + c * B k) n f = fun w => Mu A n f w + c * Mu B n f w := by
  funext w
  unfold Mu
  rw [← smk_ml, ← smk_add]
  exact smk_c fun k _ => by rw [Int.add_mul, Int.mul_assoc]
theorem Mu_sm (c : Nat → Int) (F : Nat → Nat → Int) (m n : Nat) (f : Nat → Int) : Mu (fun w => smk (fun k => c k * F k w) m) n f = fun w => smk (fun k => c k * Mu (F k) n f w) m := by
  induction m with
  | zero =>
    funext w
    show smk (fun k => 0 * _) n = 0
    exact smk_ext (n := 0) (by omega) (fun k _ _ => Int.zero_mul _)
  | succ m ih =>
    show Mu (fun w => smk (fun k => c k * F k w) m + c m * F m w) n f = fun w => smk (fun k => c k * Mu (F k) n f w) m + c m * Mu (F m) n f w
    rw [Mu_lin (fun w => smk (fun k => c k * F k w) m) (F m) (c m), ih]
theorem Mu_ext {g f : Nat → Int} {M N : Nat} (hg : ∀ k, tri M ≤ k → g k = 0) (h : M ≤ N) : Mu g (tri N) f = Mu g (tri M) f := by
  funext w
  exact smk_ext (tri_m h) (fun k h1 _ => by show g k * _ = 0; rw [hg k h1, Int.zero_mul])
/-- the words of a degree below M alone are not 0 -/
def Sup (M : Nat) (g : Nat → Int) : Prop := ∀ k, tri M ≤ k → g k = 0
theorem Sup_iff {M : Nat} {g : Nat → Int} : Sup M g ↔ ∀ i j, M ≤ i + j → g (pl i j) = 0 := by
  constructor
  · intro h i j hij
    refine h _ ?_
    have := tri_m hij
    show tri M ≤ tri (i + j) + j
    omega
  · intro h k hk
    rw [← pl_w k]
    refine h _ _ (Decidable.not_not.mp fun c => ?_)
    have h1 := (wn_b k).2
    have h2 := xw_dw k
    have h3 := tri_m (show wn k + 1 ≤ M by omega)
    omega
theorem Sup_X {M : Nat} {g : Nat → Int} (h : Sup M g) : Sup (M + 1) (Xo g) := Sup_iff.mpr fun i j hij => by
  rw [Xo_p]
  split
  · rfl
  · exact Sup_iff.mp h _ _ (by omega)
theorem Sup_D {M : Nat} {g : Nat → Int} (h : Sup M g) : Sup (M + 1) (Do g) := Sup_iff.mpr fun i j hij => by
  rw [Do_p, Sup_iff.mp h (i + 1) j (by omega), Int.mul_zero, Int.add_zero]
  split
  · rfl
  · exact Sup_iff.mp h _ _ (by omega)
theorem Sup_m {M N : Nat} {g : Nat → Int} (h : Sup M g) (hm : M ≤ N) : Sup N g := fun k hk => h k (by have := tri_m hm; omega)
theorem Wo_Mu {M : Nat} {h : Nat → Int} (hh : Sup M h) (f : Nat → Int) (p q : Nat) : Sup (M + q + p) (Wo p q h) ∧ Mu (Wo p q h) (tri (M + q + p)) f = Wo p q (Mu h (tri M) f) := by
  have hq : Sup (M + q) (itr Do q h) ∧ Mu (itr Do q h) (tri (M + q)) f = itr Do q (Mu h (tri M) f) := by
    induction q with
    | zero => exact ⟨hh, rfl⟩
    | succ q ih =>
      refine ⟨Sup_D ih.1, ?_⟩
      show Mu (Do (itr Do q h)) (tri (M + q + 1)) f = Do (itr Do q (Mu h (tri M) f))
      rw [Mu_D _ f _ ih.1, ih.2]
  unfold Wo
  induction p with
  | zero => exact hq
  | succ p ih =>
    refine ⟨Sup_X ih.1, ?_⟩
    show Mu (Xo (itr Xo p (itr Do q h))) (tri (M + q + p + 1)) f = Xo (itr Xo p (itr Do q (Mu h (tri M) f)))
    rw [Mu_X _ f _, ih.2]
theorem Mu_S {M N : Nat} {g h : Nat → Int} (hh : Sup M h) : Sup (M + N) (Mu g (tri (N + 1)) h) := fun w hw => smk_ext (n := 0) (by omega) (fun k _ hk => by
  show g k * Wo (xw k) (dw k) h w = 0
  have h2 := xw_dw k
  have h1 : wn k ≤ N := Decidable.not_not.mp fun c => by
    have := tri_m (show N + 1 ≤ wn k by omega)
    have := (wn_b k).1
    omega
  rw [Sup_m (Wo_Mu hh h (xw k) (dw k)).1 (show _ ≤ M + N by omega) w hw, Int.mul_zero])
/-- associativity -/
theorem Mu_assoc {M N : Nat} {g h : Nat → Int} (hh : Sup M h) (f : Nat → Int) : Mu (Mu g (tri (N + 1)) h) (tri (M + N)) f = Mu g (tri (N + 1)) (Mu h (tri M) f) := by
  show Mu (fun w => smk (fun k => g k * Wo (xw k) (dw k) h w) (tri (N + 1))) (tri (M + N)) f = _
  rw [Mu_sm g (fun k => Wo (xw k) (dw k) h)]
  funext w
  refine smk_c fun k hk => ?_
  have h2 := xw_dw k
  have h1 : wn k ≤ N := Decidable.not_not.mp fun c => by
    have := tri_m (show N + 1 ≤ wn k by omega)
    have := (wn_b k).1
    omega
  obtain ⟨a1, a2⟩ := Wo_Mu hh f (xw k) (dw k)
  rw [Mu_ext a1 (show M + dw k + xw k ≤ M + N by omega), a2]
