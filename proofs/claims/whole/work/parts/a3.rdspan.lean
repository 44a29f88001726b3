/-! Sorted rows; a remainder differs by an element of the span. Written by wip/whole/gen_a3.py. -/
theorem srt_le {n m : Nat} {a b : Nat → Nat} (ha : ∀ i j, i < j → j < n → a i < a j) (h1 : ∀ i, i < n → ∃ j, j < m ∧ a i = b j) (hb : ∀ i j, i < j → j < m → b i < b j) {i : Nat} (hi : i < n) (him : i < m) (ih : ∀ k, k < i → a k = b k) : b i ≤ a i := by
  obtain ⟨j, hj, e⟩ := h1 i hi
  rw [e]
  by_cases c : j < i
  · have h2 := ih j c
    have h3 := ha j i c hi
    omega
  · by_cases c2 : j = i
    · rw [c2]; exact Nat.le_refl _
    · exact Nat.le_of_lt (hb i j (by omega) hj)
/-- two rising rows with the same members are the same -/
theorem srt_eq {n m : Nat} {a b : Nat → Nat} (ha : ∀ i j, i < j → j < n → a i < a j) (hb : ∀ i j, i < j → j < m → b i < b j) (h1 : ∀ i, i < n → ∃ j, j < m ∧ a i = b j) (h2 : ∀ j, j < m → ∃ i, i < n ∧ b j = a i) : n = m ∧ ∀ i, i < n → a i = b i := by
  have key : ∀ i, i < n → i < m → a i = b i := fun i => by
    induction i using Nat.strongRecOn with
    | ind i ih =>
      intro hn hm
      have e1 := srt_le ha h1 hb hn hm (fun k hk => ih k hk (by omega) (by omega))
      have e2 := srt_le hb h2 ha hm hn (fun k hk => (ih k hk (by omega) (by omega)).symm)
      omega
  have e : n = m := by
    rcases Nat.lt_trichotomy n m with c | c | c
    · obtain ⟨i, hi, e⟩ := h2 n c
      have h3 := key i hi (by omega)
      have h4 := hb i n hi c
      omega
    · exact c
    · obtain ⟨i, hi, e⟩ := h1 m c
      have h3 := key i (by omega) hi
      have h4 := ha i m hi c
      omega
  exact ⟨e, fun i hi => key i hi (by omega)⟩
def c91 (f : Nat → Int) : Nat → Int := fun v => if v < 91 then f v else 0
/-- f and its remainder differ by an element of the span -/
theorem rd_span {o : Int} {ld : Nat → Nat} {b : Nat} {B : Nat → Nat → Int} (hS : ∀ k, k < b → Sup 31 (B k)) (hB : ∀ k, k < b → Bd o (B k) (ld k)) {f : Nat → Int} (hf : ∀ v, v < 91 → 0 ≤ f v ∧ f v < 10007) (hz : ∀ v, 91 ≤ v → f v = 0) {r : Nat} (hr : ∀ v, f v % 10007 ≠ 0 → rk o v < r) (t : Nat) (ht : t ≤ 91) : Vr o (Rw b B ld) r (sbr f (c91 (rdI o ld b B f t))) ∧ ∀ v, c91 (rdI o ld b B f t) v % 10007 ≠ 0 → rk o v < r := by
  have hL := Vr_L o (Rw b B ld) r
  induction t with
  | zero =>
    have e : c91 (rdI o ld b B f 0) = f := by
      funext v
      show (if v < 91 then f v else 0) = f v
      by_cases c : v < 91
      · rw [if_pos c]
      · rw [if_neg c, hz v (by omega)]
    rw [e]
    refine ⟨hL.1 _ _ (fun w => ?_) hL.2.1, hr⟩
    show (0 : Int) % 10007 = (f w + -1 * f w) % 10007
    refine congrArg (· % 10007) ?_
    omega
  | succ t ih =>
    obtain ⟨i1, i2⟩ := ih (by omega)
    have hFb := rdI_b (o := o) (ld := ld) (b := b) (B := B) hf t
    have hw : unr o (90 - t) < 91 := unr_91 (by omega)
    rw [show rdI o ld b B f (t + 1) = rdS ld b B (rdI o ld b B f t) (unr o (90 - t)) from rfl]
    unfold rdS
    generalize rdI o ld b B f t = F at *
    generalize unr o (90 - t) = w at *
    by_cases c : F w = 0
    · rw [if_pos c]; exact ⟨i1, i2⟩
    · rw [if_neg c]
      by_cases ck : fbl ld b w < b
      · have hdv := of_decide_eq_true (fnd_yes (p := fun k => decide (xw (ld k) ≤ xw w ∧ dw (ld k) ≤ dw w)) (n := b) ck)
        have hdv : xw (ld (fbl ld b w)) ≤ xw w ∧ dw (ld (fbl ld b w)) ≤ dw w := hdv
        have eC : cnS ld b B F w = fun v => (F v + (10007 - F w) * inv (B (fbl ld b w) (ld (fbl ld b w))) % 10007 * cor (xw w - xw (ld (fbl ld b w))) (dw w - dw (ld (fbl ld b w))) (B (fbl ld b w)) 496 v) % 10007 := if_pos ck
        rw [eC]
        generalize fbl ld b w = k at *
        generalize (10007 - F w) * inv (B k (ld k)) % 10007 = x
        have hBk := hB k ck
        rw [← pl_w (ld k)] at hBk
        have hbw := Bd_W hBk (xw w - xw (ld k)) (dw w - dw (ld k))
        have hrw : rk o w < r := i2 w (by show (if w < 91 then F w else 0) % 10007 ≠ 0; rw [if_pos hw]; have := hFb w hw; omega)
        have ew : pl (xw w - xw (ld k) + xw (ld k)) (dw w - dw (ld k) + dw (ld k)) = w := by
          rw [show xw w - xw (ld k) + xw (ld k) = xw w by omega, show dw w - dw (ld k) + dw (ld k) = dw w by omega, pl_w]
        have hg : Vr o (Rw b B ld) r (Wo (xw w - xw (ld k)) (dw w - dw (ld k)) (B k)) := Vr_g ⟨k, ck, rfl, rfl⟩ (by rw [ew]; exact hrw)
        rw [ew] at hbw
        have hcw := cor_Wo (xw w - xw (ld k)) (dw w - dw (ld k)) (hS k ck)
        rw [tri_31] at hcw
        generalize Wo (xw w - xw (ld k)) (dw w - dw (ld k)) (B k) = W at *
        have e1 : ∀ v, c91 (fun v => (F v + x * cor (xw w - xw (ld k)) (dw w - dw (ld k)) (B k) 496 v) % 10007) v % 10007 = (c91 F v + x * W v) % 10007 := fun v => by
          show (if v < 91 then (F v + x * cor (xw w - xw (ld k)) (dw w - dw (ld k)) (B k) 496 v) % 10007 else 0) % 10007 = ((if v < 91 then F v else 0) + x * W v) % 10007
          by_cases hv : v < 91
          · rw [if_pos hv, if_pos hv]
            have := md_mul (c := x) (hcw v)
            generalize x * cor (xw w - xw (ld k)) (dw w - dw (ld k)) (B k) 496 v = y at *
            generalize x * W v = z at *
            omega
          · have h9 : 91 ≤ rk o v := Decidable.not_not.mp fun q => by
              have q1 := unr_91 (o := o) (r := rk o v) (by omega)
              rw [unr_rk] at q1
              omega
            have z0 := Bd_z hbw (v := v) (by have := rk_91 (o := o) hw; omega)
            have := md_mul (c := x) (a := W v) (b := 0) (by rw [z0]; rfl)
            rw [Int.mul_zero] at this
            rw [if_neg hv, if_neg hv]
            generalize x * W v = z at *
            omega
        refine ⟨hL.1 _ _ (fun v => ?_) (hL.2.2 _ _ (-x) i1 hg), fun v hv => ?_⟩
        · have := e1 v
          unfold sbr
          rw [Int.neg_mul x]
          generalize c91 (fun v => (F v + x * cor (xw w - xw (ld k)) (dw w - dw (ld k)) (B k) 496 v) % 10007) v = y at *
          generalize c91 F v = z at *
          generalize x * W v = s at *
          omega
        · rw [e1 v] at hv
          by_cases c1 : c91 F v % 10007 = 0
          · refine Nat.lt_of_le_of_lt (hbw v (fun z => hv ?_)) hrw
            have := md_mul (c := x) (a := W v) (b := 0) (by rw [z]; rfl)
            rw [Int.mul_zero] at this
            generalize x * W v = s at *
            omega
          · exact i2 v c1
      · rw [show cnS ld b B F w = F from if_neg ck]
        exact ⟨i1, i2⟩
