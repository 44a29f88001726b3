/-! Agreements: reversed. Written by wip/whole/gen_9u.py. -/
theorem smk_dw (h : Nat → Int) (j M : Nat) : smk (fun k => if dw k = j then h (xw k) else 0) (tri M) = smk h (M - j) := by
  induction M with
  | zero => rw [Nat.zero_sub]; rfl
  | succ M ih =>
    rw [tri_s, smk_app, ih]
    have e : smk (fun k => if dw (tri M + k) = j then h (xw (tri M + k)) else 0) (M + 1) = if j ≤ M then h (M - j) else 0 := by
      by_cases c : j ≤ M
      · obtain ⟨a1, a2⟩ := tri_w (D := M) (j := j) c
        rw [if_pos c, smk_one (t := fun k => if dw (tri M + k) = j then h (xw (tri M + k)) else 0) (m := j) (by omega) (fun t ht hne => ?_)]
        · show (if dw (tri M + j) = j then h (xw (tri M + j)) else 0) = _
          rw [if_pos a2, a1]
        · obtain ⟨b1, b2⟩ := tri_w (D := M) (j := t) (by omega)
          show (if dw (tri M + t) = j then h (xw (tri M + t)) else 0) = 0
          rw [if_neg (by omega)]
      · rw [if_neg c]
        refine (smk_ext (n := 0) (by omega) (fun t _ ht => ?_)).trans rfl
        obtain ⟨b1, b2⟩ := tri_w (D := M) (j := t) (by omega)
        show (if dw (tri M + t) = j then h (xw (tri M + t)) else 0) = 0
        rw [if_neg (by omega)]
    rw [e]
    by_cases c : j ≤ M
    · rw [if_pos c, show M + 1 - j = M - j + 1 by omega]; rfl
    · rw [if_neg c, show M + 1 - j = M - j by omega, Int.add_zero]
theorem rvF_v {f : Nat → Int} (hf : ∀ k, k < 91 → 0 ≤ f k ∧ f k < 10007) {w : Nat} (hw : w < 496) (n : Nat) (hn : n ≤ 91) : rvF f n w = smk (fun k => sgj (dw k) * (f k * co 0 (dw k) (xw k) 0 w)) n % 10007 := by
  induction n with
  | zero => rfl
  | succ n ih =>
    have ih := ih (by omega)
    have b := hf n (by omega)
    show (if f n = 0 then rvF f n else adF 0 (dw n) (xw n) 0 (rvc f n) (rvF f n) (min (xw n) (dw n) + 1)) w = (smk (fun k => sgj (dw k) * (f k * co 0 (dw k) (xw k) 0 w)) n + sgj (dw n) * (f n * co 0 (dw n) (xw n) 0 w)) % 10007
    by_cases c : f n = 0
    · rw [if_pos c, ih, c, Int.zero_mul, Int.mul_zero, Int.add_zero]
    · have hc : 0 ≤ rvc f n ∧ rvc f n < 10007 := by unfold rvc; split <;> omega
      rw [if_neg c, adF_co (rvF_b n) hc hw, ih]
      have e : rvc f n * co 0 (dw n) (xw n) 0 w % 10007 = sgj (dw n) * (f n * co 0 (dw n) (xw n) 0 w) % 10007 := by
        generalize co 0 (dw n) (xw n) 0 w = z
        unfold rvc sgj
        by_cases p : dw n % 2 = 1
        · rw [if_pos p, if_neg (by omega), Int.sub_mul]
          generalize f n * z = y
          omega
        · rw [if_neg p, if_pos (by omega), Int.one_mul]
      generalize rvc f n * co 0 (dw n) (xw n) 0 w = y at *
      generalize sgj (dw n) * (f n * co 0 (dw n) (xw n) 0 w) = z at *
      generalize smk (fun k => sgj (dw k) * (f k * co 0 (dw k) (xw k) 0 w)) n = x at *
      omega
/-- reversed: the class's row is the reference's -/
theorem reversed_eq {f s : Nat → Int} (hf : ∀ k, k < 91 → 0 ≤ f k ∧ f k < 10007) (hs : ∀ k, k < 91 → s k = f k) {w : Nat} (hw : w < 496) : ajm s 13 w = rvF f 91 w := by
  rw [rvF_v hf hw 91 (Nat.le_refl _)]
  unfold ajm ajs
  refine congrArg (· % 10007) ?_
  have e1 : ∀ k, k < 91 → sgj (dw k) * (f k * co 0 (dw k) (xw k) 0 w) = smk (fun j => if dw k = j then sgj j * (f (pl (xw k) j) * co 0 j (xw k) 0 w) else 0) 13 := fun k hk => by
    have hx := xw_12 hk
    rw [smk_one (m := dw k) (by omega) (fun j _ hne => if_neg (fun z => hne z.symm)), if_pos rfl, pl_w]
  rw [smk_c e1, smk_sw (fun k j => if dw k = j then sgj j * (f (pl (xw k) j) * co 0 j (xw k) 0 w) else 0)]
  refine smk_c fun j hj => ?_
  rw [show (91 : Nat) = tri 13 from tri_13.symm, smk_dw (fun i => sgj j * (f (pl i j) * co 0 j i 0 w)) j 13, smk_ml]
  refine congrArg (sgj j * ·) ?_
  unfold cor
  rw [smk_c (t := fun k => if dw k = 0 then (fun i => if i < 13 - j then s (pl i j) * co 0 j i 0 w else 0) (xw k) else 0) (fun k _ => ?_), show (496 : Nat) = tri 31 from tri_31.symm, smk_dw (fun i => if i < 13 - j then s (pl i j) * co 0 j i 0 w else 0) 0 31, smk_ext (n := 13 - j) (by omega) (fun k h1 _ => if_neg (by omega))]
  · refine smk_c fun i hi => ?_
    rw [if_pos hi, hs _ (pl_91 (by omega))]
  · unfold spj
    by_cases c : dw k = 0
    · rw [if_pos c]
      show _ = if xw k < 13 - j then s (pl (xw k) j) * co 0 j (xw k) 0 w else 0
      by_cases c2 : xw k < 13 - j
      · rw [if_pos ⟨c, c2⟩, if_pos c2, c]
      · rw [if_neg (fun z => c2 z.2), if_neg c2, Int.zero_mul]
    · rw [if_neg (fun z => c z.1), if_neg c, Int.zero_mul]
theorem hsF_c {f g : Nat → Int} {u : Int64} {n : Nat} (h : ∀ k, k < n → f k = g k) : hsF f u n = hsF g u n := by
  induction n with
  | zero => rfl
  | succ n ih => show hs (hsF f u n) (f n) = hs (hsF g u n) (g n); rw [ih (fun k hk => h k (by omega)), h n (by omega)]
theorem hsF_app (f : Nat → Int) (u : Int64) (a b : Nat) : hsF f u (a + b) = hsF (fun k => f (a + k)) (hsF f u a) b := by
  induction b with
  | zero => rfl
  | succ b ih => show hs (hsF f u (a + b)) (f (a + b)) = hs (hsF (fun k => f (a + k)) (hsF f u a) b) (f (a + b)); rw [ih]
/-- digest: both sides give the same -/
theorem digest_eq {I : Nat → Nat → Int} (h1 : ∀ k : Nat, k < 6 → tofc I k = tof I k) (h2 : ∀ s k, s < 6 → k < 91 → I (10 + 2 * s) k = opr I s k) (h3 : ∀ f k, f < 2 → k < 31 → I (7 + f) k = I 302 (546 + 31 * f + k)) : digc I = dig I (I 4 2) := by
  have e1 : ∀ (v : Int64) n, n ≤ 6 → dgC I v n = dgS I (I 4 2) v n := fun v n hn => by
    induction n with
    | zero => rfl
    | succ n ih =>
      show hsF (fun k => tl (I (10 + 2 * n) k)) (hsF (fun k => abt (I 4 2) (opc I n) k) (dgC I v n) 9) 91 = hsF (fun k => tl (opr I n k)) (hsF (fun k => abt (I 4 2) (fe I n) k) (dgS I (I 4 2) v n) 9) 91
      rw [ih (by omega), show opc I n = fe I n from by
        funext j
        unfold opc cl fe
        by_cases c : j < 91
        · rw [if_pos c, if_pos c]; exact h2 n j (by omega) c
        · rw [if_neg c, if_neg c]]
      exact hsF_c (fun k hk => by rw [h2 n k (by omega) hk])
  unfold digc dig
  rw [e1 _ 6 (Nat.le_refl _), hsF_c h1]
  show hsF (fun k => tl (I (7 + 1) k)) (hsF (fun k => tl (I (7 + 0) k)) _ 31) 31 = hsF (fun k => tl (I 302 (546 + k))) _ (31 + 31)
  rw [hsF_app, hsF_c (f := fun k => tl (I (7 + 0) k)) (g := fun k => tl (I 302 (546 + k))) (fun k hk => by rw [h3 0 k (by omega) hk])]
  exact hsF_c (fun k hk => by rw [h3 1 k (by omega) hk, show 546 + 31 * 1 + k = 546 + (31 + k) by omega])
