/-! Agreements: kernel. Written by wip/whole/gen_9t.py. -/
theorem xw_12 {w : Nat} (h : w < 91) : xw w + dw w ≤ 12 := by
  have h1 := xw_dw w
  have h2 := wn_12 h
  omega
/-- what the k-th pair of word and power gives to the cell p of row n -/
def lmT (f : Nat → Int) (r n p k : Nat) : Int := if k % r = n ∧ dw (k / r) ≤ n ∧ n - dw (k / r) + xw (k / r) = p then f (k / r) * fal n (dw (k / r)) else 0
theorem lmF_v {f m0 : Nat → Int} {r : Nat} (hr : 0 < r ∧ r ≤ 16) (h0 : ∀ j, j < 28 * r → m0 j = 0) {n p : Nat} (hn : n < r) (hp : p < 28) (k : Nat) (hk : k ≤ r * 91) : lmF f r m0 k (28 * n + p) = smk (lmT f r n p) k % 10007 := by
  induction k with
  | zero => exact h0 _ (by omega)
  | succ k ih =>
    have ih := ih (by omega)
    have hw : k / r < 91 := Nat.div_lt_of_lt_mul (by omega)
    have hm : k % r < r := Nat.mod_lt _ hr.1
    have hx := xw_12 hw
    show (if ¬ f (k / r) = 0 ∧ dw (k / r) ≤ k % r then au (lmF f r m0 k) (lmt r k) ((lmF f r m0 k (lmt r k) + f (k / r) * fal (k % r) (dw (k / r))) % 10007) else lmF f r m0 k) (28 * n + p) = (smk (lmT f r n p) k + lmT f r n p k) % 10007
    by_cases c : ¬ f (k / r) = 0 ∧ dw (k / r) ≤ k % r
    · rw [if_pos c, au_i]
      unfold lmT
      by_cases e : 28 * n + p = lmt r k
      · have en : k % r = n ∧ n - dw (k / r) + xw (k / r) = p := by unfold lmt at e; omega
        rw [if_pos e, ← e, ih, en.1, if_pos ⟨rfl, by omega, en.2⟩]
        show (smk (lmT f r n p) k % 10007 + _) % 10007 = (smk (lmT f r n p) k + _) % 10007
        generalize f (k / r) * fal n (dw (k / r)) = z
        generalize smk (lmT f r n p) k = y
        omega
      · rw [if_neg e, ih, if_neg (fun z => e (by unfold lmt; omega)), Int.add_zero]
        rfl
    · rw [if_neg c, ih]
      have : lmT f r n p k = 0 := by
        unfold lmT
        split
        · rename_i q
          rw [show f (k / r) = 0 from Decidable.not_not.mp (fun z => c ⟨z, by omega⟩), Int.zero_mul]
        · rfl
      rw [this, Int.add_zero]
theorem lm_im {f m0 : Nat → Int} {r : Nat} (hr : 0 < r ∧ r ≤ 16) (h0 : ∀ j, j < 28 * r → m0 j = 0) {n p : Nat} (hn : n < r) (hp : p < 28) : Mx (lmF f r m0 (91 * r)) n p = imS f n p 91 % 10007 := by
  unfold Mx
  rw [Nat.mul_comm 91 r, lmF_v hr h0 hn hp _ (Nat.le_refl _), smk_blk]
  refine congrArg (· % 10007) (smk_c fun w hw => ?_)
  rw [smk_one (m := n) hn (fun n' hn' hne => ?_)]
  · unfold lmT
    rw [Nat.mul_add_mod, Nat.mod_eq_of_lt hn, Nat.mul_add_div hr.1, Nat.div_eq_of_lt hn, Nat.add_zero]
    by_cases c : dw w ≤ n ∧ n - dw w + xw w = p
    · rw [if_pos ⟨rfl, c⟩, if_pos c]
    · rw [if_neg (fun z => c z.2), if_neg c]
  · unfold lmT
    rw [Nat.mul_add_mod, Nat.mod_eq_of_lt hn']
    exact if_neg (fun z => hne z.1)
theorem rnk_c {A B : Nat → Nat → Int} {q : Nat} (h : ∀ k j, k < q → j < 28 → A k j = B k j) : rnk A q = rnk B q := cnP_c (fun m hm => ⟨PvC_c (fun k j hk hj => h k j hk (by omega)), PvC_c (fun k j hk hj => (h k j hk (by omega)).symm)⟩)
/-- kernel: the class's answer is the reference's -/
theorem kernel_eq {f e m0 : Nat → Int} {r : Nat} (hr : 0 < r ∧ r ≤ 16) (h0 : ∀ j, j < 28 * r → m0 j = 0) (hm : resm m0) (hfe : ∀ w, w < 91 → f w = e w) : ((keN (lmF f r m0 (91 * r)) r r : Nat) : Int) = (r : Int) - (rnk (fun k m => imS e k m 91 % 10007) r : Nat) := by
  have h1 := ke_rnk (m := lmF f r m0 (91 * r)) (q := r) (lmF_b hm _) hr.2
  rw [rnk_c (B := fun k m => imS e k m 91 % 10007) (fun k j hk hj => by
    rw [lm_im hr h0 hk hj]
    refine congrArg (· % 10007) (smk_c fun w hw => ?_)
    rw [hfe w hw])] at h1
  omega
