/-! The reference's kernel is what the rank leaves. -/
def Mx (m : Nat → Int) (k j : Nat) : Int := m (28 * k + j)
def eo (m : Nat → Int) (o k : Nat) (b : Int) : Int := if elc m o k b = 0 then 0 else 10007 - elc m o k b
theorem elF_v {m : Nat → Int} {r k : Nat} {b : Int} (t : Nat) {o j : Nat} (hj : j < 28) (hk : k < 28) : elF m r k b t (28 * o + j) = if r < o ∧ o ≤ r + t then (m (28 * o + j) + eo m o k b * m (28 * r + j)) % 10007 else m (28 * o + j) := by
  induction t generalizing o j with
  | zero => rw [if_neg (by omega)]; rfl
  | succ t ih =>
    show arF (elF m r k b t) r (if elc (elF m r k b t) (r + 1 + t) k b = 0 then 0 else 10007 - elc (elF m r k b t) (r + 1 + t) k b) (r + 1 + t) (28 * o + j) = _
    have e1 : elc (elF m r k b t) (r + 1 + t) k b = elc m (r + 1 + t) k b := by
      unfold elc
      rw [ih hk, if_neg (by omega)]
    rw [e1, show (if elc m (r + 1 + t) k b = 0 then 0 else 10007 - elc m (r + 1 + t) k b) = eo m (r + 1 + t) k b from rfl]
    unfold arF
    by_cases e : o = r + 1 + t
    · rw [if_pos (by omega), if_pos (by omega), ih hj, if_neg (by omega), show 28 * o + j - 28 * (r + 1 + t) = j by omega, ih hj, if_neg (by omega), e]
    · rw [if_neg (by omega), ih hj]
      by_cases e2 : r < o ∧ o ≤ r + t
      · rw [if_pos e2, if_pos (by omega)]
      · rw [if_neg e2, if_neg (by omega)]
theorem eo_0 {m : Nat → Int} {r o k : Nat} (hm : resm m) (hr : 28 * r + k < 448) (hn : m (28 * r + k) ≠ 0) : (m (28 * o + k) + eo m o k (inv (m (28 * r + k))) * m (28 * r + k)) % 10007 = 0 := by
  have h1 := hm _ hr
  have h2 := inv_ok (v := m (28 * r + k)) (by omega)
  have h3 : (m (28 * o + k) * inv (m (28 * r + k)) % 10007) * m (28 * r + k) % 10007 = m (28 * o + k) % 10007 := by
    rw [em1, Int.mul_assoc, Int.mul_comm (inv _), ← em2, h2, Int.mul_one]
  unfold eo elc
  split
  · rename_i e
    rw [e, Int.zero_mul] at h3
    rw [Int.zero_mul]
    omega
  · rw [Int.sub_mul]
    omega
theorem frF_v {m : Nat → Int} {r q : Nat} {o j : Nat} (hj : j < 28) : frF m r q (28 * o + j) = if pv m r < 28 ∧ r < o ∧ o < q then (m (28 * o + j) + eo m o (pv m r) (inv (m (28 * r + pv m r))) * m (28 * r + j)) % 10007 else m (28 * o + j) := by
  have hp := pv_le m r
  unfold frF
  by_cases e : pv m r = 28
  · rw [if_pos e, if_neg (by omega)]
  · rw [if_neg e, elF_v _ hj (by omega)]
    by_cases e2 : r < o ∧ o < q
    · rw [if_pos (by omega), if_pos (by omega)]
    · rw [if_neg (by omega), if_neg (by omega)]
theorem pv_c {m m' : Nat → Int} {r r' : Nat} (h : ∀ j, j < 28 → m (28 * r + j) = m' (28 * r' + j)) : pv m r = pv m' r' := by
  unfold pv
  have key : ∀ n, n ≤ 28 → fnd (fun k => decide (¬ m (28 * r + k) = 0)) n = fnd (fun k => decide (¬ m' (28 * r' + k) = 0)) n := by
    intro n hn
    induction n with
    | zero => rfl
    | succ n ih =>
      have i := ih (by omega)
      unfold fnd
      rw [i]
      have e := fnd_le (fun k => decide (¬ m' (28 * r' + k) = 0)) n
      rw [h _ (by omega)]
  exact key 28 (Nat.le_refl _)
section KE
variable {m : Nat → Int} {q : Nat}
theorem ke_row {t i j : Nat} (hj : j < 28) (s : Nat) (hi : i ≤ t) : keM m q (t + s) (28 * i + j) = keM m q t (28 * i + j) := by
  induction s with
  | zero => rfl
  | succ s ih =>
    show frF (keM m q (t + s)) (t + s) q (28 * i + j) = _
    rw [frF_v hj, if_neg (by omega), ih]
theorem ke_pv {t i : Nat} (s : Nat) (hi : i ≤ t) : pv (keM m q (t + s)) i = pv (keM m q t) i := pv_c (fun _ hj => ke_row hj s hi)
theorem ke_inv (hm : resm m) (hq : q ≤ 16) (t : Nat) (ht : t ≤ q) : ∀ i o, i < t → i < o → o < q → pv (keM m q t) i < 28 → keM m q t (28 * o + pv (keM m q t) i) = 0 := by
  induction t with
  | zero => intro i o h; omega
  | succ t ih =>
    intro i o hi ho hoq hp
    have hM := keM_b (q := q) hm t
    show frF (keM m q t) t q (28 * o + pv (frF (keM m q t) t q) i) = 0
    have epv : pv (frF (keM m q t) t q) i = pv (keM m q t) i := pv_c (fun j hj => by rw [frF_v hj, if_neg (by omega)])
    rw [epv]
    have hp2 : pv (keM m q t) i < 28 := by rw [← epv]; exact hp
    rw [frF_v hp2]
    by_cases e : i = t
    · subst e
      rw [if_pos ⟨hp2, ho, hoq⟩]
      exact eo_0 hM (by omega) (pv_yes (by omega))
    · have h1 := ih (by omega) i o (by omega) ho hoq hp2
      split
      · rw [h1, ih (by omega) i t (by omega) (by omega) (by omega) hp2, Int.mul_zero]
        rfl
      · exact h1
theorem ke_pvc (hq : q ≤ 16) (t : Nat) (ht : t ≤ q) {j : Nat} (hj : j < 28) : PvC (Mx (keM m q t)) q j ↔ PvC (Mx m) q j := by
  induction t with
  | zero => exact Iff.rfl
  | succ t ih =>
    refine Iff.trans ?_ (ih (by omega))
    refine PvC_op2 (p := t) (f := fun k => if pv (keM m q t) t < 28 ∧ t < k then eo (keM m q t) k (pv (keM m q t) t) (inv (keM m q t (28 * t + pv (keM m q t) t))) else 0) (by omega) (if_neg (by omega)) (fun k i hk hi => ?_)
    show frF (keM m q t) t q (28 * k + i) % 10007 = _
    rw [frF_v (by omega)]
    by_cases e : pv (keM m q t) t < 28 ∧ t < k
    · rw [if_pos ⟨e.1, e.2, hk⟩, if_pos e, Int.emod_emod]
      rfl
    · rw [if_neg (by omega), if_neg e, Int.zero_mul, Int.add_zero]
      rfl
theorem ke_n (t : Nat) : keN m q t + cnP (fun k => pv (keM m q k) k < 28) t = t := by
  induction t with
  | zero => rfl
  | succ t ih =>
    have hp := pv_le (keM m q t) t
    show keN m q t + (if pv (keM m q t) t = 28 then 1 else 0) + (cnP (fun k => pv (keM m q k) k < 28) t + @ite _ (pv (keM m q t) t < 28) (Classical.propDecidable _) 1 0) = t + 1
    by_cases e : pv (keM m q t) t = 28
    · rw [if_pos e, if_neg (by omega)]; omega
    · rw [if_neg e, if_pos (by omega)]; omega
/-- the reference's kernel -/
theorem ke_rnk (hm : resm m) (hq : q ≤ 16) : keN m q q + rnk (Mx m) q = q := by
  have hF := keM_b (q := q) hm q
  have e1 : rnk (Mx m) q = rnk (Mx (keM m q q)) q := cnP_c (fun j hj => (ke_pvc hq q (Nat.le_refl _) hj).symm)
  have e2 : rnk (Mx (keM m q q)) q = cnP (fun k => pv (keM m q q) k < 28) q := by
    refine rnk_ld (l := fun k => pv (keM m q q) k) (fun k j hk hj hj2 => ?_) (fun k hk hl => ?_) (fun k k' hk hk' he hl => ?_)
    · show keM m q q (28 * k + j) % 10007 = 0
      rw [pv_no hj]; rfl
    · have h1 := pv_yes (m := keM m q q) (r := k) (by omega)
      have h2 := hF (28 * k + pv (keM m q q) k) (by omega)
      show keM m q q (28 * k + pv (keM m q q) k) % 10007 ≠ 0
      omega
    · have key : ∀ a b, a < b → b < q → pv (keM m q q) a = pv (keM m q q) b → pv (keM m q q) a < 28 → False := fun a b hab hb he hl => by
        have h1 := ke_inv hm hq q (Nat.le_refl _) a b (by omega) hab hb hl
        have h2 := pv_yes (m := keM m q q) (r := b) (by omega)
        rw [he] at h1
        exact h2 h1
      rcases Nat.lt_trichotomy k k' with h | h | h
      · exact (key k k' h hk' he hl).elim
      · exact h
      · exact (key k' k h hk he.symm (by omega)).elim
  have e3 : cnP (fun k => pv (keM m q q) k < 28) q = cnP (fun k => pv (keM m q k) k < 28) q := cnP_c (fun k hk => by
    have := ke_pv (m := m) (q := q) (t := k) (i := k) (q - k) (Nat.le_refl _)
    rw [show k + (q - k) = q by omega] at this
    rw [this])
  rw [e1, e2, e3]
  exact ke_n q
end KE
