/-! Words times rows: the sums of the reference are the maps. Written by wip/whole/gen_9w.py. -/
theorem smk_DV (V : Nat → Nat → Int) (g : Nat → Int) (M : Nat) (hg : ∀ k, tri M ≤ k → g k = 0) : smk (fun k => Do g k * V (xw k) (dw k)) (tri (M + 1)) = smk (fun k => g k * (V (xw k) (dw k + 1) + ((xw k : Nat) : Int) * V (xw k - 1) (dw k))) (tri M) := by
  have z : ∀ i j, M ≤ i + j → g (pl i j) = 0 := fun i j h => hg _ (by
    have := tri_m h
    show tri M ≤ tri (i + j) + j
    omega)
  refine (smk_tri (fun i j => ((if j = 0 then 0 else g (pl i (j - 1))) + ((i : Int) + 1) * g (pl (i + 1) j)) * V i j) (M + 1)).trans ?_
  rw [smk_c (s := fun k => g k * (V (xw k) (dw k + 1) + ((xw k : Nat) : Int) * V (xw k - 1) (dw k))) (t := fun k => (fun i j => g (pl i j) * (V i (j + 1) + (i : Int) * V (i - 1) j)) (xw k) (dw k)) (fun k _ => by show _ = g (pl (xw k) (dw k)) * _; rw [pl_w]), smk_tri (fun i j => g (pl i j) * (V i (j + 1) + (i : Int) * V (i - 1) j)) M]
  have eL : ∀ D, smk (fun j => (fun i j => ((if j = 0 then 0 else g (pl i (j - 1))) + ((i : Int) + 1) * g (pl (i + 1) j)) * V i j) (D - j) j) (D + 1) = smk (fun j => (if j = 0 then 0 else g (pl (D - j) (j - 1))) * V (D - j) j) (D + 1) + smk (fun j => (((D - j : Nat) : Int) + 1) * g (pl (D - j + 1) j) * V (D - j) j) (D + 1) := fun D => by
    rw [← smk_add]
    exact smk_c fun j _ => Int.add_mul _ _ _
  have eR : ∀ D, smk (fun j => (fun i j => g (pl i j) * (V i (j + 1) + (i : Int) * V (i - 1) j)) (D - j) j) (D + 1) = smk (fun j => g (pl (D - j) j) * V (D - j) (j + 1)) (D + 1) + smk (fun j => ((D - j : Nat) : Int) * g (pl (D - j) j) * V (D - j - 1) j) (D + 1) := fun D => by
    rw [← smk_add]
    refine smk_c fun j _ => ?_
    show g (pl (D - j) j) * (V (D - j) (j + 1) + ((D - j : Nat) : Int) * V (D - j - 1) j) = _
    rw [Int.mul_add, ← Int.mul_assoc, Int.mul_comm (g (pl (D - j) j)) ((D - j : Nat) : Int)]
  rw [smk_c (fun D _ => eL D), smk_c (fun D _ => eR D), smk_add, smk_add]
  refine congr (congrArg _ ?_) ?_
  · rw [smk_1, show smk (fun j => (if j = 0 then 0 else g (pl (0 - j) (j - 1))) * V (0 - j) j) (0 + 1) = 0 from by show 0 + (0 : Int) * _ = 0; rw [Int.zero_mul]; rfl, Int.zero_add]
    refine smk_c fun D _ => ?_
    rw [smk_1]
    show (0 : Int) * _ + _ = _
    rw [Int.zero_mul, Int.zero_add]
    refine smk_c fun j hj => ?_
    show (if j + 1 = 0 then 0 else g (pl (D + 1 - (j + 1)) (j + 1 - 1))) * V (D + 1 - (j + 1)) (j + 1) = _
    rw [if_neg (by omega), show D + 1 - (j + 1) = D - j by omega, Nat.add_sub_cancel]
  · have e0 : ∀ D, M ≤ D → smk (fun j => ((D - j : Nat) : Int) * g (pl (D - j) j) * V (D - j - 1) j) (D + 1) = 0 := fun D hD => smk_ext (n := 0) (by omega) (fun j _ hj => by
      show ((D - j : Nat) : Int) * g (pl (D - j) j) * V (D - j - 1) j = 0
      rw [z _ _ (by omega), Int.mul_zero, Int.zero_mul])
    rw [← smk_ext (t := fun D => smk (fun j => ((D - j : Nat) : Int) * g (pl (D - j) j) * V (D - j - 1) j) (D + 1)) (n := M) (m := M + 1 + 1) (by omega) (fun D h1 _ => e0 D h1), smk_1 _ (M + 1)]
    rw [show smk (fun j => ((0 - j : Nat) : Int) * g (pl (0 - j) j) * V (0 - j - 1) j) (0 + 1) = 0 from by show 0 + (0 : Int) * _ * _ = 0; rw [Int.zero_mul, Int.zero_mul]; rfl, Int.zero_add]
    refine smk_c fun D _ => ?_
    show _ = smk (fun j => ((D + 1 - j : Nat) : Int) * g (pl (D + 1 - j) j) * V (D + 1 - j - 1) j) (D + 1) + ((D + 1 - (D + 1) : Nat) : Int) * g (pl (D + 1 - (D + 1)) (D + 1)) * V (D + 1 - (D + 1) - 1) (D + 1)
    rw [show ((D + 1 - (D + 1) : Nat) : Int) = 0 by omega, Int.zero_mul, Int.zero_mul, Int.add_zero]
    refine smk_c fun j hj => ?_
    show (((D - j : Nat) : Int) + 1) * g (pl (D - j + 1) j) * V (D - j) j = ((D + 1 - j : Nat) : Int) * g (pl (D + 1 - j) j) * V (D + 1 - j - 1) j
    rw [show D + 1 - j - 1 = D - j by omega, show D + 1 - j = D - j + 1 by omega, show ((D - j + 1 : Nat) : Int) = ((D - j : Nat) : Int) + 1 by omega]
theorem ch_0 (q : Nat) : ch q 0 = 1 := by cases q <;> rfl
theorem ch_o {q t : Nat} (h : q < t) : ch q t = 0 := by
  induction q generalizing t with
  | zero =>
    cases t with
    | zero => omega
    | succ t => rfl
  | succ q ih =>
    cases t with
    | zero => omega
    | succ t =>
      show (ch q (t + 1) + ch q t) % 10007 = 0
      rw [ih (by omega), ih (by omega)]; rfl
theorem fal_o {i t : Nat} (h : i < t) : fal i t = 0 := by
  induction t with
  | zero => omega
  | succ t ih =>
    show fal i t * ((i : Int) - t) % 10007 = 0
    by_cases e : i = t
    · rw [e, Int.sub_self, Int.mul_zero]; rfl
    · rw [ih (by omega), Int.zero_mul]; rfl
theorem md_mul {a b c : Int} (h : a % 10007 = b % 10007) : c * a % 10007 = c * b % 10007 := by rw [Int.mul_emod, h, ← Int.mul_emod]
theorem fal_s (i t : Nat) : fal (i + 1) (t + 1) % 10007 = ((i : Int) + 1) * fal i t % 10007 := by
  induction t with
  | zero =>
    show (1 * (((i + 1 : Nat) : Int) - ((0 : Nat) : Int)) % 10007) % 10007 = ((i : Int) + 1) * 1 % 10007
    omega
  | succ t ih =>
    show (fal (i + 1) (t + 1) * (((i + 1 : Nat) : Int) - ((t + 1 : Nat) : Int)) % 10007) % 10007 = ((i : Int) + 1) * (fal i t * ((i : Int) - t) % 10007) % 10007
    rw [Int.emod_emod, show ((i + 1 : Nat) : Int) - ((t + 1 : Nat) : Int) = (i : Int) - t by omega, Int.mul_comm, md_mul ih, md_mul (a := fal i t * ((i : Int) - t) % 10007) (b := fal i t * ((i : Int) - t)) (Int.emod_emod _ _), Int.mul_left_comm, Int.mul_comm ((i : Int) - t)]
theorem co_ext (p q i j w : Nat) : co p q i j w = smk (fun t => if w = pl (p + i - t) (q - t + j) then ch q t * fal i t else 0) (q + 1) := (smk_ext (n := min i q + 1) (m := q + 1) (by omega) (fun t h1 h2 => by
  show (if w = pl (p + i - t) (q - t + j) then ch q t * fal i t else 0) = 0
  rw [fal_o (show i < t by omega), Int.mul_zero]
  split <;> rfl)).symm
theorem co_D (q i j w : Nat) : co 0 (q + 1) i j w % 10007 = (co 0 q i (j + 1) w + (i : Int) * co 0 q (i - 1) j w) % 10007 := by
  rw [co_ext, co_ext, co_ext, smk_1, smk_1 (fun t => if w = pl (0 + i - t) (q - t + (j + 1)) then ch q t * fal i t else 0) q]
  have e1 : smk (fun t => if w = pl (0 + i - (t + 1)) (q - (t + 1) + (j + 1)) then ch q (t + 1) * fal i (t + 1) else 0) q = smk (fun t => if w = pl (0 + i - (t + 1)) (q - t + j) then ch q (t + 1) * fal i (t + 1) else 0) (q + 1) := by
    show _ = smk _ q + (if w = pl (0 + i - (q + 1)) (q - q + j) then ch q (q + 1) * fal i (q + 1) else 0)
    rw [ch_o (Nat.lt_succ_self q), Int.zero_mul, show (if w = pl (0 + i - (q + 1)) (q - q + j) then (0 : Int) else 0) = 0 by split <;> rfl, Int.add_zero]
    exact smk_c fun t ht => by rw [show q - (t + 1) + (j + 1) = q - t + j by omega]
  rw [e1, ch_0, ch_0, show q + 1 - 0 + j = q - 0 + (j + 1) by omega, ← smk_ml, Int.add_assoc, ← smk_add]
  generalize (if w = pl (0 + i - 0) (q - 0 + (j + 1)) then 1 * fal i 0 else 0 : Int) = z
  have e2 := smk_cong (s := fun t => if w = pl (0 + i - (t + 1)) (q + 1 - (t + 1) + j) then ch (q + 1) (t + 1) * fal i (t + 1) else 0) (t := fun t => (if w = pl (0 + i - (t + 1)) (q - t + j) then ch q (t + 1) * fal i (t + 1) else 0) + (i : Int) * (if w = pl (0 + (i - 1) - t) (q - t + j) then ch q t * fal (i - 1) t else 0)) (n := q + 1) (fun t _ => by
    show (if w = pl (0 + i - (t + 1)) (q + 1 - (t + 1) + j) then ch (q + 1) (t + 1) * fal i (t + 1) else 0) % 10007 = ((if w = pl (0 + i - (t + 1)) (q - t + j) then ch q (t + 1) * fal i (t + 1) else 0) + (i : Int) * (if w = pl (0 + (i - 1) - t) (q - t + j) then ch q t * fal (i - 1) t else 0)) % 10007
    rw [show q + 1 - (t + 1) = q - t by omega, show 0 + (i - 1) - t = 0 + i - (t + 1) by omega]
    by_cases c : w = pl (0 + i - (t + 1)) (q - t + j)
    · rw [if_pos c, if_pos c, if_pos c]
      have f1 : fal i (t + 1) % 10007 = (i : Int) * fal (i - 1) t % 10007 := by
        cases i with
        | zero => rw [fal_o (by omega)]; show (0 : Int) % 10007 = 0 * _ % 10007; rw [Int.zero_mul]
        | succ i => rw [fal_s, Nat.add_sub_cancel]; rfl
      have f2 : ch q t * fal i (t + 1) % 10007 = (i : Int) * (ch q t * fal (i - 1) t) % 10007 := by rw [md_mul f1, Int.mul_left_comm]
      have f3 : ch (q + 1) (t + 1) * fal i (t + 1) % 10007 = (ch q (t + 1) * fal i (t + 1) + ch q t * fal i (t + 1)) % 10007 := by
        rw [← Int.add_mul]
        show (ch q (t + 1) + ch q t) % 10007 * _ % 10007 = _
        rw [Int.mul_comm, md_mul (Int.emod_emod _ _), Int.mul_comm]
      rw [f3]
      generalize ch q t * fal i (t + 1) = x at *
      generalize (i : Int) * (ch q t * fal (i - 1) t) = y at *
      omega
    · rw [if_neg c, if_neg c, if_neg c, Int.mul_zero]; rfl)
  generalize smk (fun t => if w = pl (0 + i - (t + 1)) (q + 1 - (t + 1) + j) then ch (q + 1) (t + 1) * fal i (t + 1) else 0) (q + 1) = x at *
  generalize smk (fun t => (if w = pl (0 + i - (t + 1)) (q - t + j) then ch q (t + 1) * fal i (t + 1) else 0) + (i : Int) * (if w = pl (0 + (i - 1) - t) (q - t + j) then ch q t * fal (i - 1) t else 0)) (q + 1) = y at *
  omega
theorem cor_D {M q w : Nat} {h : Nat → Int} (hh : Sup M h) : cor 0 (q + 1) h (tri M) w % 10007 = cor 0 q (Do h) (tri (M + 1)) w % 10007 := by
  unfold cor
  rw [smk_DV (fun i j => co 0 q i j w) h M hh]
  exact smk_cong fun k _ => md_mul (co_D q (xw k) (dw k) w)
theorem Xo_co (p q i j : Nat) : Xo (co p q i j) = co (p + 1) q i j := by
  refine ext_pl fun a b => ?_
  rw [Xo_p]
  unfold co
  by_cases e : a = 0
  · rw [if_pos e]
    refine (smk_ext (n := 0) (by omega) (fun t _ ht => ?_)).symm
    show (if pl a b = pl (p + 1 + i - t) (q - t + j) then ch q t * fal i t else 0) = 0
    rw [if_neg (fun z => by have := pl_iff.mp z; rw [xw_pl] at this; omega)]
  · rw [if_neg e]
    refine smk_c fun t ht => ?_
    by_cases c : pl (a - 1) b = pl (p + i - t) (q - t + j)
    · have := pl_iff.mp c
      rw [xw_pl, dw_pl] at this
      rw [if_pos c, if_pos (pl_iff.mpr (by rw [xw_pl, dw_pl]; omega))]
    · rw [if_neg c, if_neg (fun z => c (pl_iff.mpr (by have := pl_iff.mp z; rw [xw_pl, dw_pl] at this; rw [xw_pl, dw_pl]; omega)))]
theorem cor_X (p q n : Nat) (h : Nat → Int) : cor (p + 1) q h n = Xo (cor p q h n) := by
  have := Xo_sm h (fun k => co p q (xw k) (dw k)) n
  refine Eq.trans ?_ this.symm
  funext w
  exact smk_c fun k _ => by rw [Xo_co]
theorem itr_s (F : (Nat → Int) → Nat → Int) (n : Nat) (f : Nat → Int) : itr F n (F f) = F (itr F n f) := by
  induction n with
  | zero => rfl
  | succ n ih => show F (itr F n (F f)) = F (F (itr F n f)); rw [ih]
theorem cor_Wo (p q : Nat) {M : Nat} {h : Nat → Int} (hh : Sup M h) : ∀ w, cor p q h (tri M) w % 10007 = Wo p q h w % 10007 := by
  induction p with
  | succ p ih =>
    intro w
    rw [cor_X]
    show Xo (cor p q h (tri M)) w % 10007 = Xo (Wo p q h) w % 10007
    unfold Xo
    split
    · rfl
    · exact ih _
  | zero =>
    show ∀ w, cor 0 q h (tri M) w % 10007 = itr Do q h w % 10007
    induction q generalizing h M with
    | succ q ih =>
      intro w
      rw [cor_D hh, ih (Sup_D hh) w, itr_s]
      rfl
    | zero =>
      intro w
      refine congrArg (· % 10007) ?_
      show smk (fun k => h k * co 0 0 (xw k) (dw k) w) (tri M) = h w
      have e : ∀ k, h k * co 0 0 (xw k) (dw k) w = if w = k then h k else 0 := fun k => by
        rw [co_ext]
        show h k * (0 + if w = pl (0 + xw k - 0) (0 - 0 + dw k) then 1 * 1 else 0) = _
        rw [show 0 + xw k - 0 = xw k by omega, show 0 - 0 + dw k = dw k by omega, pl_w]
        split <;> omega
      rw [smk_c (fun k _ => e k)]
      by_cases c : w < tri M
      · rw [smk_one (m := w) c (fun k _ hne => if_neg (fun z => hne z.symm)), if_pos rfl]
      · rw [hh w (by omega)]
        exact smk_ext (n := 0) (by omega) (fun k _ hk => if_neg (by omega))
/-- a product at a word is the product of the rows -/
theorem prd_Mu {g h : Nat → Int} (hh : Sup 31 h) (w : Nat) : prd g h w % 10007 = Mu g (tri 31) h w % 10007 := by
  unfold prd prn Mu
  rw [← tri_31]
  exact smk_cong fun k _ => md_mul (cor_Wo (xw k) (dw k) hh w)
